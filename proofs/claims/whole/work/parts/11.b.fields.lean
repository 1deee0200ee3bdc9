-- layer 2: a field read behind a setting (all by definition); frames
theorem q1_lenses_lenses (v : BX1) (x : Int32) : pX1_lenses (sX1_lenses v x) = x := rfl
theorem q1_pairs_lenses (v : BX1) (x : Int32) : pX1_pairs (sX1_lenses v x) = pX1_pairs v := rfl
theorem q1_lensSide_lenses (v : BX1) (x : Int32) : pX1_lensSide (sX1_lenses v x) = pX1_lensSide v := rfl
theorem q1_lensWidth_lenses (v : BX1) (x : Int32) : pX1_lensWidth (sX1_lenses v x) = pX1_lensWidth v := rfl
theorem q1_pairA_lenses (v : BX1) (x : Int32) : pX1_pairA (sX1_lenses v x) = pX1_pairA v := rfl
theorem q1_pairB_lenses (v : BX1) (x : Int32) : pX1_pairB (sX1_lenses v x) = pX1_pairB v := rfl
theorem q1_pairDelay_lenses (v : BX1) (x : Int32) : pX1_pairDelay (sX1_lenses v x) = pX1_pairDelay v := rfl
theorem q1_lenses_pairs (v : BX1) (x : Int32) : pX1_lenses (sX1_pairs v x) = pX1_lenses v := rfl
theorem q1_pairs_pairs (v : BX1) (x : Int32) : pX1_pairs (sX1_pairs v x) = x := rfl
theorem q1_lensSide_pairs (v : BX1) (x : Int32) : pX1_lensSide (sX1_pairs v x) = pX1_lensSide v := rfl
theorem q1_lensWidth_pairs (v : BX1) (x : Int32) : pX1_lensWidth (sX1_pairs v x) = pX1_lensWidth v := rfl
theorem q1_pairA_pairs (v : BX1) (x : Int32) : pX1_pairA (sX1_pairs v x) = pX1_pairA v := rfl
theorem q1_pairB_pairs (v : BX1) (x : Int32) : pX1_pairB (sX1_pairs v x) = pX1_pairB v := rfl
theorem q1_pairDelay_pairs (v : BX1) (x : Int32) : pX1_pairDelay (sX1_pairs v x) = pX1_pairDelay v := rfl
theorem q1_lenses_lensSide (v : BX1) (x : (Nat → Int32)) : pX1_lenses (sX1_lensSide v x) = pX1_lenses v := rfl
theorem q1_pairs_lensSide (v : BX1) (x : (Nat → Int32)) : pX1_pairs (sX1_lensSide v x) = pX1_pairs v := rfl
theorem q1_lensSide_lensSide (v : BX1) (x : (Nat → Int32)) : pX1_lensSide (sX1_lensSide v x) = x := rfl
theorem q1_lensWidth_lensSide (v : BX1) (x : (Nat → Int32)) : pX1_lensWidth (sX1_lensSide v x) = pX1_lensWidth v := rfl
theorem q1_pairA_lensSide (v : BX1) (x : (Nat → Int32)) : pX1_pairA (sX1_lensSide v x) = pX1_pairA v := rfl
theorem q1_pairB_lensSide (v : BX1) (x : (Nat → Int32)) : pX1_pairB (sX1_lensSide v x) = pX1_pairB v := rfl
theorem q1_pairDelay_lensSide (v : BX1) (x : (Nat → Int32)) : pX1_pairDelay (sX1_lensSide v x) = pX1_pairDelay v := rfl
theorem q1_lenses_lensWidth (v : BX1) (x : (Nat → Int32)) : pX1_lenses (sX1_lensWidth v x) = pX1_lenses v := rfl
theorem q1_pairs_lensWidth (v : BX1) (x : (Nat → Int32)) : pX1_pairs (sX1_lensWidth v x) = pX1_pairs v := rfl
theorem q1_lensSide_lensWidth (v : BX1) (x : (Nat → Int32)) : pX1_lensSide (sX1_lensWidth v x) = pX1_lensSide v := rfl
theorem q1_lensWidth_lensWidth (v : BX1) (x : (Nat → Int32)) : pX1_lensWidth (sX1_lensWidth v x) = x := rfl
theorem q1_pairA_lensWidth (v : BX1) (x : (Nat → Int32)) : pX1_pairA (sX1_lensWidth v x) = pX1_pairA v := rfl
theorem q1_pairB_lensWidth (v : BX1) (x : (Nat → Int32)) : pX1_pairB (sX1_lensWidth v x) = pX1_pairB v := rfl
theorem q1_pairDelay_lensWidth (v : BX1) (x : (Nat → Int32)) : pX1_pairDelay (sX1_lensWidth v x) = pX1_pairDelay v := rfl
theorem q1_lenses_pairA (v : BX1) (x : (Nat → Int32)) : pX1_lenses (sX1_pairA v x) = pX1_lenses v := rfl
theorem q1_pairs_pairA (v : BX1) (x : (Nat → Int32)) : pX1_pairs (sX1_pairA v x) = pX1_pairs v := rfl
theorem q1_lensSide_pairA (v : BX1) (x : (Nat → Int32)) : pX1_lensSide (sX1_pairA v x) = pX1_lensSide v := rfl
theorem q1_lensWidth_pairA (v : BX1) (x : (Nat → Int32)) : pX1_lensWidth (sX1_pairA v x) = pX1_lensWidth v := rfl
theorem q1_pairA_pairA (v : BX1) (x : (Nat → Int32)) : pX1_pairA (sX1_pairA v x) = x := rfl
theorem q1_pairB_pairA (v : BX1) (x : (Nat → Int32)) : pX1_pairB (sX1_pairA v x) = pX1_pairB v := rfl
theorem q1_pairDelay_pairA (v : BX1) (x : (Nat → Int32)) : pX1_pairDelay (sX1_pairA v x) = pX1_pairDelay v := rfl
theorem q1_lenses_pairB (v : BX1) (x : (Nat → Int32)) : pX1_lenses (sX1_pairB v x) = pX1_lenses v := rfl
theorem q1_pairs_pairB (v : BX1) (x : (Nat → Int32)) : pX1_pairs (sX1_pairB v x) = pX1_pairs v := rfl
theorem q1_lensSide_pairB (v : BX1) (x : (Nat → Int32)) : pX1_lensSide (sX1_pairB v x) = pX1_lensSide v := rfl
theorem q1_lensWidth_pairB (v : BX1) (x : (Nat → Int32)) : pX1_lensWidth (sX1_pairB v x) = pX1_lensWidth v := rfl
theorem q1_pairA_pairB (v : BX1) (x : (Nat → Int32)) : pX1_pairA (sX1_pairB v x) = pX1_pairA v := rfl
theorem q1_pairB_pairB (v : BX1) (x : (Nat → Int32)) : pX1_pairB (sX1_pairB v x) = x := rfl
theorem q1_pairDelay_pairB (v : BX1) (x : (Nat → Int32)) : pX1_pairDelay (sX1_pairB v x) = pX1_pairDelay v := rfl
theorem q1_lenses_pairDelay (v : BX1) (x : (Nat → Int32)) : pX1_lenses (sX1_pairDelay v x) = pX1_lenses v := rfl
theorem q1_pairs_pairDelay (v : BX1) (x : (Nat → Int32)) : pX1_pairs (sX1_pairDelay v x) = pX1_pairs v := rfl
theorem q1_lensSide_pairDelay (v : BX1) (x : (Nat → Int32)) : pX1_lensSide (sX1_pairDelay v x) = pX1_lensSide v := rfl
theorem q1_lensWidth_pairDelay (v : BX1) (x : (Nat → Int32)) : pX1_lensWidth (sX1_pairDelay v x) = pX1_lensWidth v := rfl
theorem q1_pairA_pairDelay (v : BX1) (x : (Nat → Int32)) : pX1_pairA (sX1_pairDelay v x) = pX1_pairA v := rfl
theorem q1_pairB_pairDelay (v : BX1) (x : (Nat → Int32)) : pX1_pairB (sX1_pairDelay v x) = pX1_pairB v := rfl
theorem q1_pairDelay_pairDelay (v : BX1) (x : (Nat → Int32)) : pX1_pairDelay (sX1_pairDelay v x) = x := rfl
theorem q2_begun_begun (v : BX2) (x : Int32) : pX2_begun (sX2_begun v x) = x := rfl
theorem q2_hit_begun (v : BX2) (x : Int32) : pX2_hit (sX2_begun v x) = pX2_hit v := rfl
theorem q2_rested_begun (v : BX2) (x : Int32) : pX2_rested (sX2_begun v x) = pX2_rested v := rfl
theorem q2_count_begun (v : BX2) (x : Int32) : pX2_count (sX2_begun v x) = pX2_count v := rfl
theorem q2_over_begun (v : BX2) (x : Int32) : pX2_over (sX2_begun v x) = pX2_over v := rfl
theorem q2_x_begun (v : BX2) (x : Int32) : pX2_x (sX2_begun v x) = pX2_x v := rfl
theorem q2_y_begun (v : BX2) (x : Int32) : pX2_y (sX2_begun v x) = pX2_y v := rfl
theorem q2_head_begun (v : BX2) (x : Int32) : pX2_head (sX2_begun v x) = pX2_head v := rfl
theorem q2_lenses_begun (v : BX2) (x : Int32) : pX2_lenses (sX2_begun v x) = pX2_lenses v := rfl
theorem q2_pairs_begun (v : BX2) (x : Int32) : pX2_pairs (sX2_begun v x) = pX2_pairs v := rfl
theorem q2_rows_begun (v : BX2) (x : Int32) : pX2_rows (sX2_begun v x) = pX2_rows v := rfl
theorem q2_takes_begun (v : BX2) (x : Int32) : pX2_takes (sX2_begun v x) = pX2_takes v := rfl
theorem q2_begun_hit (v : BX2) (x : Int32) : pX2_begun (sX2_hit v x) = pX2_begun v := rfl
theorem q2_hit_hit (v : BX2) (x : Int32) : pX2_hit (sX2_hit v x) = x := rfl
theorem q2_rested_hit (v : BX2) (x : Int32) : pX2_rested (sX2_hit v x) = pX2_rested v := rfl
theorem q2_count_hit (v : BX2) (x : Int32) : pX2_count (sX2_hit v x) = pX2_count v := rfl
theorem q2_over_hit (v : BX2) (x : Int32) : pX2_over (sX2_hit v x) = pX2_over v := rfl
theorem q2_x_hit (v : BX2) (x : Int32) : pX2_x (sX2_hit v x) = pX2_x v := rfl
theorem q2_y_hit (v : BX2) (x : Int32) : pX2_y (sX2_hit v x) = pX2_y v := rfl
theorem q2_head_hit (v : BX2) (x : Int32) : pX2_head (sX2_hit v x) = pX2_head v := rfl
theorem q2_lenses_hit (v : BX2) (x : Int32) : pX2_lenses (sX2_hit v x) = pX2_lenses v := rfl
theorem q2_pairs_hit (v : BX2) (x : Int32) : pX2_pairs (sX2_hit v x) = pX2_pairs v := rfl
theorem q2_rows_hit (v : BX2) (x : Int32) : pX2_rows (sX2_hit v x) = pX2_rows v := rfl
theorem q2_takes_hit (v : BX2) (x : Int32) : pX2_takes (sX2_hit v x) = pX2_takes v := rfl
theorem q2_begun_rested (v : BX2) (x : Int32) : pX2_begun (sX2_rested v x) = pX2_begun v := rfl
theorem q2_hit_rested (v : BX2) (x : Int32) : pX2_hit (sX2_rested v x) = pX2_hit v := rfl
theorem q2_rested_rested (v : BX2) (x : Int32) : pX2_rested (sX2_rested v x) = x := rfl
theorem q2_count_rested (v : BX2) (x : Int32) : pX2_count (sX2_rested v x) = pX2_count v := rfl
theorem q2_over_rested (v : BX2) (x : Int32) : pX2_over (sX2_rested v x) = pX2_over v := rfl
theorem q2_x_rested (v : BX2) (x : Int32) : pX2_x (sX2_rested v x) = pX2_x v := rfl
theorem q2_y_rested (v : BX2) (x : Int32) : pX2_y (sX2_rested v x) = pX2_y v := rfl
theorem q2_head_rested (v : BX2) (x : Int32) : pX2_head (sX2_rested v x) = pX2_head v := rfl
theorem q2_lenses_rested (v : BX2) (x : Int32) : pX2_lenses (sX2_rested v x) = pX2_lenses v := rfl
theorem q2_pairs_rested (v : BX2) (x : Int32) : pX2_pairs (sX2_rested v x) = pX2_pairs v := rfl
theorem q2_rows_rested (v : BX2) (x : Int32) : pX2_rows (sX2_rested v x) = pX2_rows v := rfl
theorem q2_takes_rested (v : BX2) (x : Int32) : pX2_takes (sX2_rested v x) = pX2_takes v := rfl
theorem q2_begun_count (v : BX2) (x : Int32) : pX2_begun (sX2_count v x) = pX2_begun v := rfl
theorem q2_hit_count (v : BX2) (x : Int32) : pX2_hit (sX2_count v x) = pX2_hit v := rfl
theorem q2_rested_count (v : BX2) (x : Int32) : pX2_rested (sX2_count v x) = pX2_rested v := rfl
theorem q2_count_count (v : BX2) (x : Int32) : pX2_count (sX2_count v x) = x := rfl
theorem q2_over_count (v : BX2) (x : Int32) : pX2_over (sX2_count v x) = pX2_over v := rfl
theorem q2_x_count (v : BX2) (x : Int32) : pX2_x (sX2_count v x) = pX2_x v := rfl
theorem q2_y_count (v : BX2) (x : Int32) : pX2_y (sX2_count v x) = pX2_y v := rfl
theorem q2_head_count (v : BX2) (x : Int32) : pX2_head (sX2_count v x) = pX2_head v := rfl
theorem q2_lenses_count (v : BX2) (x : Int32) : pX2_lenses (sX2_count v x) = pX2_lenses v := rfl
theorem q2_pairs_count (v : BX2) (x : Int32) : pX2_pairs (sX2_count v x) = pX2_pairs v := rfl
theorem q2_rows_count (v : BX2) (x : Int32) : pX2_rows (sX2_count v x) = pX2_rows v := rfl
theorem q2_takes_count (v : BX2) (x : Int32) : pX2_takes (sX2_count v x) = pX2_takes v := rfl
theorem q2_begun_over (v : BX2) (x : Int32) : pX2_begun (sX2_over v x) = pX2_begun v := rfl
theorem q2_hit_over (v : BX2) (x : Int32) : pX2_hit (sX2_over v x) = pX2_hit v := rfl
theorem q2_rested_over (v : BX2) (x : Int32) : pX2_rested (sX2_over v x) = pX2_rested v := rfl
theorem q2_count_over (v : BX2) (x : Int32) : pX2_count (sX2_over v x) = pX2_count v := rfl
theorem q2_over_over (v : BX2) (x : Int32) : pX2_over (sX2_over v x) = x := rfl
theorem q2_x_over (v : BX2) (x : Int32) : pX2_x (sX2_over v x) = pX2_x v := rfl
theorem q2_y_over (v : BX2) (x : Int32) : pX2_y (sX2_over v x) = pX2_y v := rfl
theorem q2_head_over (v : BX2) (x : Int32) : pX2_head (sX2_over v x) = pX2_head v := rfl
theorem q2_lenses_over (v : BX2) (x : Int32) : pX2_lenses (sX2_over v x) = pX2_lenses v := rfl
theorem q2_pairs_over (v : BX2) (x : Int32) : pX2_pairs (sX2_over v x) = pX2_pairs v := rfl
theorem q2_rows_over (v : BX2) (x : Int32) : pX2_rows (sX2_over v x) = pX2_rows v := rfl
theorem q2_takes_over (v : BX2) (x : Int32) : pX2_takes (sX2_over v x) = pX2_takes v := rfl
theorem q2_begun_x (v : BX2) (x : Int32) : pX2_begun (sX2_x v x) = pX2_begun v := rfl
theorem q2_hit_x (v : BX2) (x : Int32) : pX2_hit (sX2_x v x) = pX2_hit v := rfl
theorem q2_rested_x (v : BX2) (x : Int32) : pX2_rested (sX2_x v x) = pX2_rested v := rfl
theorem q2_count_x (v : BX2) (x : Int32) : pX2_count (sX2_x v x) = pX2_count v := rfl
theorem q2_over_x (v : BX2) (x : Int32) : pX2_over (sX2_x v x) = pX2_over v := rfl
theorem q2_x_x (v : BX2) (x : Int32) : pX2_x (sX2_x v x) = x := rfl
theorem q2_y_x (v : BX2) (x : Int32) : pX2_y (sX2_x v x) = pX2_y v := rfl
theorem q2_head_x (v : BX2) (x : Int32) : pX2_head (sX2_x v x) = pX2_head v := rfl
theorem q2_lenses_x (v : BX2) (x : Int32) : pX2_lenses (sX2_x v x) = pX2_lenses v := rfl
theorem q2_pairs_x (v : BX2) (x : Int32) : pX2_pairs (sX2_x v x) = pX2_pairs v := rfl
theorem q2_rows_x (v : BX2) (x : Int32) : pX2_rows (sX2_x v x) = pX2_rows v := rfl
theorem q2_takes_x (v : BX2) (x : Int32) : pX2_takes (sX2_x v x) = pX2_takes v := rfl
theorem q2_begun_y (v : BX2) (x : Int32) : pX2_begun (sX2_y v x) = pX2_begun v := rfl
theorem q2_hit_y (v : BX2) (x : Int32) : pX2_hit (sX2_y v x) = pX2_hit v := rfl
theorem q2_rested_y (v : BX2) (x : Int32) : pX2_rested (sX2_y v x) = pX2_rested v := rfl
theorem q2_count_y (v : BX2) (x : Int32) : pX2_count (sX2_y v x) = pX2_count v := rfl
theorem q2_over_y (v : BX2) (x : Int32) : pX2_over (sX2_y v x) = pX2_over v := rfl
theorem q2_x_y (v : BX2) (x : Int32) : pX2_x (sX2_y v x) = pX2_x v := rfl
theorem q2_y_y (v : BX2) (x : Int32) : pX2_y (sX2_y v x) = x := rfl
theorem q2_head_y (v : BX2) (x : Int32) : pX2_head (sX2_y v x) = pX2_head v := rfl
theorem q2_lenses_y (v : BX2) (x : Int32) : pX2_lenses (sX2_y v x) = pX2_lenses v := rfl
theorem q2_pairs_y (v : BX2) (x : Int32) : pX2_pairs (sX2_y v x) = pX2_pairs v := rfl
theorem q2_rows_y (v : BX2) (x : Int32) : pX2_rows (sX2_y v x) = pX2_rows v := rfl
theorem q2_takes_y (v : BX2) (x : Int32) : pX2_takes (sX2_y v x) = pX2_takes v := rfl
theorem q2_begun_head (v : BX2) (x : Int32) : pX2_begun (sX2_head v x) = pX2_begun v := rfl
theorem q2_hit_head (v : BX2) (x : Int32) : pX2_hit (sX2_head v x) = pX2_hit v := rfl
theorem q2_rested_head (v : BX2) (x : Int32) : pX2_rested (sX2_head v x) = pX2_rested v := rfl
theorem q2_count_head (v : BX2) (x : Int32) : pX2_count (sX2_head v x) = pX2_count v := rfl
theorem q2_over_head (v : BX2) (x : Int32) : pX2_over (sX2_head v x) = pX2_over v := rfl
theorem q2_x_head (v : BX2) (x : Int32) : pX2_x (sX2_head v x) = pX2_x v := rfl
theorem q2_y_head (v : BX2) (x : Int32) : pX2_y (sX2_head v x) = pX2_y v := rfl
theorem q2_head_head (v : BX2) (x : Int32) : pX2_head (sX2_head v x) = x := rfl
theorem q2_lenses_head (v : BX2) (x : Int32) : pX2_lenses (sX2_head v x) = pX2_lenses v := rfl
theorem q2_pairs_head (v : BX2) (x : Int32) : pX2_pairs (sX2_head v x) = pX2_pairs v := rfl
theorem q2_rows_head (v : BX2) (x : Int32) : pX2_rows (sX2_head v x) = pX2_rows v := rfl
theorem q2_takes_head (v : BX2) (x : Int32) : pX2_takes (sX2_head v x) = pX2_takes v := rfl
theorem q2_begun_lenses (v : BX2) (x : Int32) : pX2_begun (sX2_lenses v x) = pX2_begun v := rfl
theorem q2_hit_lenses (v : BX2) (x : Int32) : pX2_hit (sX2_lenses v x) = pX2_hit v := rfl
theorem q2_rested_lenses (v : BX2) (x : Int32) : pX2_rested (sX2_lenses v x) = pX2_rested v := rfl
theorem q2_count_lenses (v : BX2) (x : Int32) : pX2_count (sX2_lenses v x) = pX2_count v := rfl
theorem q2_over_lenses (v : BX2) (x : Int32) : pX2_over (sX2_lenses v x) = pX2_over v := rfl
theorem q2_x_lenses (v : BX2) (x : Int32) : pX2_x (sX2_lenses v x) = pX2_x v := rfl
theorem q2_y_lenses (v : BX2) (x : Int32) : pX2_y (sX2_lenses v x) = pX2_y v := rfl
theorem q2_head_lenses (v : BX2) (x : Int32) : pX2_head (sX2_lenses v x) = pX2_head v := rfl
theorem q2_lenses_lenses (v : BX2) (x : Int32) : pX2_lenses (sX2_lenses v x) = x := rfl
theorem q2_pairs_lenses (v : BX2) (x : Int32) : pX2_pairs (sX2_lenses v x) = pX2_pairs v := rfl
theorem q2_rows_lenses (v : BX2) (x : Int32) : pX2_rows (sX2_lenses v x) = pX2_rows v := rfl
theorem q2_takes_lenses (v : BX2) (x : Int32) : pX2_takes (sX2_lenses v x) = pX2_takes v := rfl
theorem q2_begun_pairs (v : BX2) (x : Int32) : pX2_begun (sX2_pairs v x) = pX2_begun v := rfl
theorem q2_hit_pairs (v : BX2) (x : Int32) : pX2_hit (sX2_pairs v x) = pX2_hit v := rfl
theorem q2_rested_pairs (v : BX2) (x : Int32) : pX2_rested (sX2_pairs v x) = pX2_rested v := rfl
theorem q2_count_pairs (v : BX2) (x : Int32) : pX2_count (sX2_pairs v x) = pX2_count v := rfl
theorem q2_over_pairs (v : BX2) (x : Int32) : pX2_over (sX2_pairs v x) = pX2_over v := rfl
theorem q2_x_pairs (v : BX2) (x : Int32) : pX2_x (sX2_pairs v x) = pX2_x v := rfl
theorem q2_y_pairs (v : BX2) (x : Int32) : pX2_y (sX2_pairs v x) = pX2_y v := rfl
theorem q2_head_pairs (v : BX2) (x : Int32) : pX2_head (sX2_pairs v x) = pX2_head v := rfl
theorem q2_lenses_pairs (v : BX2) (x : Int32) : pX2_lenses (sX2_pairs v x) = pX2_lenses v := rfl
theorem q2_pairs_pairs (v : BX2) (x : Int32) : pX2_pairs (sX2_pairs v x) = x := rfl
theorem q2_rows_pairs (v : BX2) (x : Int32) : pX2_rows (sX2_pairs v x) = pX2_rows v := rfl
theorem q2_takes_pairs (v : BX2) (x : Int32) : pX2_takes (sX2_pairs v x) = pX2_takes v := rfl
theorem q2_begun_rows (v : BX2) (x : (Nat → Int32)) : pX2_begun (sX2_rows v x) = pX2_begun v := rfl
theorem q2_hit_rows (v : BX2) (x : (Nat → Int32)) : pX2_hit (sX2_rows v x) = pX2_hit v := rfl
theorem q2_rested_rows (v : BX2) (x : (Nat → Int32)) : pX2_rested (sX2_rows v x) = pX2_rested v := rfl
theorem q2_count_rows (v : BX2) (x : (Nat → Int32)) : pX2_count (sX2_rows v x) = pX2_count v := rfl
theorem q2_over_rows (v : BX2) (x : (Nat → Int32)) : pX2_over (sX2_rows v x) = pX2_over v := rfl
theorem q2_x_rows (v : BX2) (x : (Nat → Int32)) : pX2_x (sX2_rows v x) = pX2_x v := rfl
theorem q2_y_rows (v : BX2) (x : (Nat → Int32)) : pX2_y (sX2_rows v x) = pX2_y v := rfl
theorem q2_head_rows (v : BX2) (x : (Nat → Int32)) : pX2_head (sX2_rows v x) = pX2_head v := rfl
theorem q2_lenses_rows (v : BX2) (x : (Nat → Int32)) : pX2_lenses (sX2_rows v x) = pX2_lenses v := rfl
theorem q2_pairs_rows (v : BX2) (x : (Nat → Int32)) : pX2_pairs (sX2_rows v x) = pX2_pairs v := rfl
theorem q2_rows_rows (v : BX2) (x : (Nat → Int32)) : pX2_rows (sX2_rows v x) = x := rfl
theorem q2_takes_rows (v : BX2) (x : (Nat → Int32)) : pX2_takes (sX2_rows v x) = pX2_takes v := rfl
theorem q2_begun_takes (v : BX2) (x : (Nat → Int32)) : pX2_begun (sX2_takes v x) = pX2_begun v := rfl
theorem q2_hit_takes (v : BX2) (x : (Nat → Int32)) : pX2_hit (sX2_takes v x) = pX2_hit v := rfl
theorem q2_rested_takes (v : BX2) (x : (Nat → Int32)) : pX2_rested (sX2_takes v x) = pX2_rested v := rfl
theorem q2_count_takes (v : BX2) (x : (Nat → Int32)) : pX2_count (sX2_takes v x) = pX2_count v := rfl
theorem q2_over_takes (v : BX2) (x : (Nat → Int32)) : pX2_over (sX2_takes v x) = pX2_over v := rfl
theorem q2_x_takes (v : BX2) (x : (Nat → Int32)) : pX2_x (sX2_takes v x) = pX2_x v := rfl
theorem q2_y_takes (v : BX2) (x : (Nat → Int32)) : pX2_y (sX2_takes v x) = pX2_y v := rfl
theorem q2_head_takes (v : BX2) (x : (Nat → Int32)) : pX2_head (sX2_takes v x) = pX2_head v := rfl
theorem q2_lenses_takes (v : BX2) (x : (Nat → Int32)) : pX2_lenses (sX2_takes v x) = pX2_lenses v := rfl
theorem q2_pairs_takes (v : BX2) (x : (Nat → Int32)) : pX2_pairs (sX2_takes v x) = pX2_pairs v := rfl
theorem q2_rows_takes (v : BX2) (x : (Nat → Int32)) : pX2_rows (sX2_takes v x) = pX2_rows v := rfl
theorem q2_takes_takes (v : BX2) (x : (Nat → Int32)) : pX2_takes (sX2_takes v x) = x := rfl
theorem q4_size_size (v : BX4) (x : Int32) : pX4_size (sX4_size v x) = x := rfl
theorem q4_open_size (v : BX4) (x : Int32) : pX4_open (sX4_size v x) = pX4_open v := rfl
theorem q4_told_size (v : BX4) (x : Int32) : pX4_told (sX4_size v x) = pX4_told v := rfl
theorem q4_used_size (v : BX4) (x : Int32) : pX4_used (sX4_size v x) = pX4_used v := rfl
theorem q4_fault_size (v : BX4) (x : Int32) : pX4_fault (sX4_size v x) = pX4_fault v := rfl
theorem q4_place_size (v : BX4) (x : Int32) : pX4_place (sX4_size v x) = pX4_place v := rfl
theorem q4_code_size (v : BX4) (x : Int32) : pX4_code (sX4_size v x) = pX4_code v := rfl
theorem q4_size_open (v : BX4) (x : Int32) : pX4_size (sX4_open v x) = pX4_size v := rfl
theorem q4_open_open (v : BX4) (x : Int32) : pX4_open (sX4_open v x) = x := rfl
theorem q4_told_open (v : BX4) (x : Int32) : pX4_told (sX4_open v x) = pX4_told v := rfl
theorem q4_used_open (v : BX4) (x : Int32) : pX4_used (sX4_open v x) = pX4_used v := rfl
theorem q4_fault_open (v : BX4) (x : Int32) : pX4_fault (sX4_open v x) = pX4_fault v := rfl
theorem q4_place_open (v : BX4) (x : Int32) : pX4_place (sX4_open v x) = pX4_place v := rfl
theorem q4_code_open (v : BX4) (x : Int32) : pX4_code (sX4_open v x) = pX4_code v := rfl
theorem q4_size_told (v : BX4) (x : Int32) : pX4_size (sX4_told v x) = pX4_size v := rfl
theorem q4_open_told (v : BX4) (x : Int32) : pX4_open (sX4_told v x) = pX4_open v := rfl
theorem q4_told_told (v : BX4) (x : Int32) : pX4_told (sX4_told v x) = x := rfl
theorem q4_used_told (v : BX4) (x : Int32) : pX4_used (sX4_told v x) = pX4_used v := rfl
theorem q4_fault_told (v : BX4) (x : Int32) : pX4_fault (sX4_told v x) = pX4_fault v := rfl
theorem q4_place_told (v : BX4) (x : Int32) : pX4_place (sX4_told v x) = pX4_place v := rfl
theorem q4_code_told (v : BX4) (x : Int32) : pX4_code (sX4_told v x) = pX4_code v := rfl
theorem q4_size_used (v : BX4) (x : Int32) : pX4_size (sX4_used v x) = pX4_size v := rfl
theorem q4_open_used (v : BX4) (x : Int32) : pX4_open (sX4_used v x) = pX4_open v := rfl
theorem q4_told_used (v : BX4) (x : Int32) : pX4_told (sX4_used v x) = pX4_told v := rfl
theorem q4_used_used (v : BX4) (x : Int32) : pX4_used (sX4_used v x) = x := rfl
theorem q4_fault_used (v : BX4) (x : Int32) : pX4_fault (sX4_used v x) = pX4_fault v := rfl
theorem q4_place_used (v : BX4) (x : Int32) : pX4_place (sX4_used v x) = pX4_place v := rfl
theorem q4_code_used (v : BX4) (x : Int32) : pX4_code (sX4_used v x) = pX4_code v := rfl
theorem q4_size_fault (v : BX4) (x : Int32) : pX4_size (sX4_fault v x) = pX4_size v := rfl
theorem q4_open_fault (v : BX4) (x : Int32) : pX4_open (sX4_fault v x) = pX4_open v := rfl
theorem q4_told_fault (v : BX4) (x : Int32) : pX4_told (sX4_fault v x) = pX4_told v := rfl
theorem q4_used_fault (v : BX4) (x : Int32) : pX4_used (sX4_fault v x) = pX4_used v := rfl
theorem q4_fault_fault (v : BX4) (x : Int32) : pX4_fault (sX4_fault v x) = x := rfl
theorem q4_place_fault (v : BX4) (x : Int32) : pX4_place (sX4_fault v x) = pX4_place v := rfl
theorem q4_code_fault (v : BX4) (x : Int32) : pX4_code (sX4_fault v x) = pX4_code v := rfl
theorem q4_size_place (v : BX4) (x : Int32) : pX4_size (sX4_place v x) = pX4_size v := rfl
theorem q4_open_place (v : BX4) (x : Int32) : pX4_open (sX4_place v x) = pX4_open v := rfl
theorem q4_told_place (v : BX4) (x : Int32) : pX4_told (sX4_place v x) = pX4_told v := rfl
theorem q4_used_place (v : BX4) (x : Int32) : pX4_used (sX4_place v x) = pX4_used v := rfl
theorem q4_fault_place (v : BX4) (x : Int32) : pX4_fault (sX4_place v x) = pX4_fault v := rfl
theorem q4_place_place (v : BX4) (x : Int32) : pX4_place (sX4_place v x) = x := rfl
theorem q4_code_place (v : BX4) (x : Int32) : pX4_code (sX4_place v x) = pX4_code v := rfl
theorem q4_size_code (v : BX4) (x : (Nat → Int32)) : pX4_size (sX4_code v x) = pX4_size v := rfl
theorem q4_open_code (v : BX4) (x : (Nat → Int32)) : pX4_open (sX4_code v x) = pX4_open v := rfl
theorem q4_told_code (v : BX4) (x : (Nat → Int32)) : pX4_told (sX4_code v x) = pX4_told v := rfl
theorem q4_used_code (v : BX4) (x : (Nat → Int32)) : pX4_used (sX4_code v x) = pX4_used v := rfl
theorem q4_fault_code (v : BX4) (x : (Nat → Int32)) : pX4_fault (sX4_code v x) = pX4_fault v := rfl
theorem q4_place_code (v : BX4) (x : (Nat → Int32)) : pX4_place (sX4_code v x) = pX4_place v := rfl
theorem q4_code_code (v : BX4) (x : (Nat → Int32)) : pX4_code (sX4_code v x) = x := rfl
theorem q5_count_count (v : BX5) (x : Int32) : pX5_count (sX5_count v x) = x := rfl
theorem q5_x_count (v : BX5) (x : Int32) : pX5_x (sX5_count v x) = pX5_x v := rfl
theorem q5_y_count (v : BX5) (x : Int32) : pX5_y (sX5_count v x) = pX5_y v := rfl
theorem q5_head_count (v : BX5) (x : Int32) : pX5_head (sX5_count v x) = pX5_head v := rfl
theorem q5_size_count (v : BX5) (x : Int32) : pX5_size (sX5_count v x) = pX5_size v := rfl
theorem q5_turns_count (v : BX5) (x : Int32) : pX5_turns (sX5_count v x) = pX5_turns v := rfl
theorem q5_count_x (v : BX5) (x : (Nat → Int32)) : pX5_count (sX5_x v x) = pX5_count v := rfl
theorem q5_x_x (v : BX5) (x : (Nat → Int32)) : pX5_x (sX5_x v x) = x := rfl
theorem q5_y_x (v : BX5) (x : (Nat → Int32)) : pX5_y (sX5_x v x) = pX5_y v := rfl
theorem q5_head_x (v : BX5) (x : (Nat → Int32)) : pX5_head (sX5_x v x) = pX5_head v := rfl
theorem q5_size_x (v : BX5) (x : (Nat → Int32)) : pX5_size (sX5_x v x) = pX5_size v := rfl
theorem q5_turns_x (v : BX5) (x : (Nat → Int32)) : pX5_turns (sX5_x v x) = pX5_turns v := rfl
theorem q5_count_y (v : BX5) (x : (Nat → Int32)) : pX5_count (sX5_y v x) = pX5_count v := rfl
theorem q5_x_y (v : BX5) (x : (Nat → Int32)) : pX5_x (sX5_y v x) = pX5_x v := rfl
theorem q5_y_y (v : BX5) (x : (Nat → Int32)) : pX5_y (sX5_y v x) = x := rfl
theorem q5_head_y (v : BX5) (x : (Nat → Int32)) : pX5_head (sX5_y v x) = pX5_head v := rfl
theorem q5_size_y (v : BX5) (x : (Nat → Int32)) : pX5_size (sX5_y v x) = pX5_size v := rfl
theorem q5_turns_y (v : BX5) (x : (Nat → Int32)) : pX5_turns (sX5_y v x) = pX5_turns v := rfl
theorem q5_count_head (v : BX5) (x : (Nat → Int32)) : pX5_count (sX5_head v x) = pX5_count v := rfl
theorem q5_x_head (v : BX5) (x : (Nat → Int32)) : pX5_x (sX5_head v x) = pX5_x v := rfl
theorem q5_y_head (v : BX5) (x : (Nat → Int32)) : pX5_y (sX5_head v x) = pX5_y v := rfl
theorem q5_head_head (v : BX5) (x : (Nat → Int32)) : pX5_head (sX5_head v x) = x := rfl
theorem q5_size_head (v : BX5) (x : (Nat → Int32)) : pX5_size (sX5_head v x) = pX5_size v := rfl
theorem q5_turns_head (v : BX5) (x : (Nat → Int32)) : pX5_turns (sX5_head v x) = pX5_turns v := rfl
theorem q5_count_size (v : BX5) (x : (Nat → Int32)) : pX5_count (sX5_size v x) = pX5_count v := rfl
theorem q5_x_size (v : BX5) (x : (Nat → Int32)) : pX5_x (sX5_size v x) = pX5_x v := rfl
theorem q5_y_size (v : BX5) (x : (Nat → Int32)) : pX5_y (sX5_size v x) = pX5_y v := rfl
theorem q5_head_size (v : BX5) (x : (Nat → Int32)) : pX5_head (sX5_size v x) = pX5_head v := rfl
theorem q5_size_size (v : BX5) (x : (Nat → Int32)) : pX5_size (sX5_size v x) = x := rfl
theorem q5_turns_size (v : BX5) (x : (Nat → Int32)) : pX5_turns (sX5_size v x) = pX5_turns v := rfl
theorem q5_count_turns (v : BX5) (x : (Nat → Int32)) : pX5_count (sX5_turns v x) = pX5_count v := rfl
theorem q5_x_turns (v : BX5) (x : (Nat → Int32)) : pX5_x (sX5_turns v x) = pX5_x v := rfl
theorem q5_y_turns (v : BX5) (x : (Nat → Int32)) : pX5_y (sX5_turns v x) = pX5_y v := rfl
theorem q5_head_turns (v : BX5) (x : (Nat → Int32)) : pX5_head (sX5_turns v x) = pX5_head v := rfl
theorem q5_size_turns (v : BX5) (x : (Nat → Int32)) : pX5_size (sX5_turns v x) = pX5_size v := rfl
theorem q5_turns_turns (v : BX5) (x : (Nat → Int32)) : pX5_turns (sX5_turns v x) = x := rfl
theorem q6_top_top (v : BX6) (x : Int32) : pX6_top (sX6_top v x) = x := rfl
theorem q6_bound_top (v : BX6) (x : Int32) : pX6_bound (sX6_top v x) = pX6_bound v := rfl
theorem q6_over_top (v : BX6) (x : Int32) : pX6_over (sX6_top v x) = pX6_over v := rfl
theorem q6_turn_top (v : BX6) (x : Int32) : pX6_turn (sX6_top v x) = pX6_turn v := rfl
theorem q6_go_top (v : BX6) (x : Int32) : pX6_go (sX6_top v x) = pX6_go v := rfl
theorem q6_rests_top (v : BX6) (x : Int32) : pX6_rests (sX6_top v x) = pX6_rests v := rfl
theorem q6_stack_top (v : BX6) (x : Int32) : pX6_stack (sX6_top v x) = pX6_stack v := rfl
theorem q6_letters_top (v : BX6) (x : Int32) : pX6_letters (sX6_top v x) = pX6_letters v := rfl
theorem q6_top_bound (v : BX6) (x : Int32) : pX6_top (sX6_bound v x) = pX6_top v := rfl
theorem q6_bound_bound (v : BX6) (x : Int32) : pX6_bound (sX6_bound v x) = x := rfl
theorem q6_over_bound (v : BX6) (x : Int32) : pX6_over (sX6_bound v x) = pX6_over v := rfl
theorem q6_turn_bound (v : BX6) (x : Int32) : pX6_turn (sX6_bound v x) = pX6_turn v := rfl
theorem q6_go_bound (v : BX6) (x : Int32) : pX6_go (sX6_bound v x) = pX6_go v := rfl
theorem q6_rests_bound (v : BX6) (x : Int32) : pX6_rests (sX6_bound v x) = pX6_rests v := rfl
theorem q6_stack_bound (v : BX6) (x : Int32) : pX6_stack (sX6_bound v x) = pX6_stack v := rfl
theorem q6_letters_bound (v : BX6) (x : Int32) : pX6_letters (sX6_bound v x) = pX6_letters v := rfl
theorem q6_top_over (v : BX6) (x : Int32) : pX6_top (sX6_over v x) = pX6_top v := rfl
theorem q6_bound_over (v : BX6) (x : Int32) : pX6_bound (sX6_over v x) = pX6_bound v := rfl
theorem q6_over_over (v : BX6) (x : Int32) : pX6_over (sX6_over v x) = x := rfl
theorem q6_turn_over (v : BX6) (x : Int32) : pX6_turn (sX6_over v x) = pX6_turn v := rfl
theorem q6_go_over (v : BX6) (x : Int32) : pX6_go (sX6_over v x) = pX6_go v := rfl
theorem q6_rests_over (v : BX6) (x : Int32) : pX6_rests (sX6_over v x) = pX6_rests v := rfl
theorem q6_stack_over (v : BX6) (x : Int32) : pX6_stack (sX6_over v x) = pX6_stack v := rfl
theorem q6_letters_over (v : BX6) (x : Int32) : pX6_letters (sX6_over v x) = pX6_letters v := rfl
theorem q6_top_turn (v : BX6) (x : Int32) : pX6_top (sX6_turn v x) = pX6_top v := rfl
theorem q6_bound_turn (v : BX6) (x : Int32) : pX6_bound (sX6_turn v x) = pX6_bound v := rfl
theorem q6_over_turn (v : BX6) (x : Int32) : pX6_over (sX6_turn v x) = pX6_over v := rfl
theorem q6_turn_turn (v : BX6) (x : Int32) : pX6_turn (sX6_turn v x) = x := rfl
theorem q6_go_turn (v : BX6) (x : Int32) : pX6_go (sX6_turn v x) = pX6_go v := rfl
theorem q6_rests_turn (v : BX6) (x : Int32) : pX6_rests (sX6_turn v x) = pX6_rests v := rfl
theorem q6_stack_turn (v : BX6) (x : Int32) : pX6_stack (sX6_turn v x) = pX6_stack v := rfl
theorem q6_letters_turn (v : BX6) (x : Int32) : pX6_letters (sX6_turn v x) = pX6_letters v := rfl
theorem q6_top_go (v : BX6) (x : Int32) : pX6_top (sX6_go v x) = pX6_top v := rfl
theorem q6_bound_go (v : BX6) (x : Int32) : pX6_bound (sX6_go v x) = pX6_bound v := rfl
theorem q6_over_go (v : BX6) (x : Int32) : pX6_over (sX6_go v x) = pX6_over v := rfl
theorem q6_turn_go (v : BX6) (x : Int32) : pX6_turn (sX6_go v x) = pX6_turn v := rfl
theorem q6_go_go (v : BX6) (x : Int32) : pX6_go (sX6_go v x) = x := rfl
theorem q6_rests_go (v : BX6) (x : Int32) : pX6_rests (sX6_go v x) = pX6_rests v := rfl
theorem q6_stack_go (v : BX6) (x : Int32) : pX6_stack (sX6_go v x) = pX6_stack v := rfl
theorem q6_letters_go (v : BX6) (x : Int32) : pX6_letters (sX6_go v x) = pX6_letters v := rfl
theorem q6_top_rests (v : BX6) (x : Int32) : pX6_top (sX6_rests v x) = pX6_top v := rfl
theorem q6_bound_rests (v : BX6) (x : Int32) : pX6_bound (sX6_rests v x) = pX6_bound v := rfl
theorem q6_over_rests (v : BX6) (x : Int32) : pX6_over (sX6_rests v x) = pX6_over v := rfl
theorem q6_turn_rests (v : BX6) (x : Int32) : pX6_turn (sX6_rests v x) = pX6_turn v := rfl
theorem q6_go_rests (v : BX6) (x : Int32) : pX6_go (sX6_rests v x) = pX6_go v := rfl
theorem q6_rests_rests (v : BX6) (x : Int32) : pX6_rests (sX6_rests v x) = x := rfl
theorem q6_stack_rests (v : BX6) (x : Int32) : pX6_stack (sX6_rests v x) = pX6_stack v := rfl
theorem q6_letters_rests (v : BX6) (x : Int32) : pX6_letters (sX6_rests v x) = pX6_letters v := rfl
theorem q6_top_stack (v : BX6) (x : (Nat → Int32)) : pX6_top (sX6_stack v x) = pX6_top v := rfl
theorem q6_bound_stack (v : BX6) (x : (Nat → Int32)) : pX6_bound (sX6_stack v x) = pX6_bound v := rfl
theorem q6_over_stack (v : BX6) (x : (Nat → Int32)) : pX6_over (sX6_stack v x) = pX6_over v := rfl
theorem q6_turn_stack (v : BX6) (x : (Nat → Int32)) : pX6_turn (sX6_stack v x) = pX6_turn v := rfl
theorem q6_go_stack (v : BX6) (x : (Nat → Int32)) : pX6_go (sX6_stack v x) = pX6_go v := rfl
theorem q6_rests_stack (v : BX6) (x : (Nat → Int32)) : pX6_rests (sX6_stack v x) = pX6_rests v := rfl
theorem q6_stack_stack (v : BX6) (x : (Nat → Int32)) : pX6_stack (sX6_stack v x) = x := rfl
theorem q6_letters_stack (v : BX6) (x : (Nat → Int32)) : pX6_letters (sX6_stack v x) = pX6_letters v := rfl
theorem q6_top_letters (v : BX6) (x : (Nat → Int32)) : pX6_top (sX6_letters v x) = pX6_top v := rfl
theorem q6_bound_letters (v : BX6) (x : (Nat → Int32)) : pX6_bound (sX6_letters v x) = pX6_bound v := rfl
theorem q6_over_letters (v : BX6) (x : (Nat → Int32)) : pX6_over (sX6_letters v x) = pX6_over v := rfl
theorem q6_turn_letters (v : BX6) (x : (Nat → Int32)) : pX6_turn (sX6_letters v x) = pX6_turn v := rfl
theorem q6_go_letters (v : BX6) (x : (Nat → Int32)) : pX6_go (sX6_letters v x) = pX6_go v := rfl
theorem q6_rests_letters (v : BX6) (x : (Nat → Int32)) : pX6_rests (sX6_letters v x) = pX6_rests v := rfl
theorem q6_stack_letters (v : BX6) (x : (Nat → Int32)) : pX6_stack (sX6_letters v x) = pX6_stack v := rfl
theorem q6_letters_letters (v : BX6) (x : (Nat → Int32)) : pX6_letters (sX6_letters v x) = x := rfl
theorem q7_n_x (v : BX7) (x : Int32) : pX7_n (sX7_x v x) = pX7_n v := rfl
theorem q7_x_x (v : BX7) (x : Int32) : pX7_x (sX7_x v x) = x := rfl
theorem q7_y_x (v : BX7) (x : Int32) : pX7_y (sX7_x v x) = pX7_y v := rfl
theorem q7_view_x (v : BX7) (x : Int32) : pX7_view (sX7_x v x) = pX7_view v := rfl
theorem q7_rays_x (v : BX7) (x : Int32) : pX7_rays (sX7_x v x) = pX7_rays v := rfl
theorem q7_n_y (v : BX7) (x : Int32) : pX7_n (sX7_y v x) = pX7_n v := rfl
theorem q7_x_y (v : BX7) (x : Int32) : pX7_x (sX7_y v x) = pX7_x v := rfl
theorem q7_y_y (v : BX7) (x : Int32) : pX7_y (sX7_y v x) = x := rfl
theorem q7_view_y (v : BX7) (x : Int32) : pX7_view (sX7_y v x) = pX7_view v := rfl
theorem q7_rays_y (v : BX7) (x : Int32) : pX7_rays (sX7_y v x) = pX7_rays v := rfl
theorem q7_n_view (v : BX7) (x : (Nat → Int32)) : pX7_n (sX7_view v x) = pX7_n v := rfl
theorem q7_x_view (v : BX7) (x : (Nat → Int32)) : pX7_x (sX7_view v x) = pX7_x v := rfl
theorem q7_y_view (v : BX7) (x : (Nat → Int32)) : pX7_y (sX7_view v x) = pX7_y v := rfl
theorem q7_view_view (v : BX7) (x : (Nat → Int32)) : pX7_view (sX7_view v x) = x := rfl
theorem q7_rays_view (v : BX7) (x : (Nat → Int32)) : pX7_rays (sX7_view v x) = pX7_rays v := rfl
theorem q7_n_rays (v : BX7) (x : (Nat → Int32)) : pX7_n (sX7_rays v x) = pX7_n v := rfl
theorem q7_x_rays (v : BX7) (x : (Nat → Int32)) : pX7_x (sX7_rays v x) = pX7_x v := rfl
theorem q7_y_rays (v : BX7) (x : (Nat → Int32)) : pX7_y (sX7_rays v x) = pX7_y v := rfl
theorem q7_view_rays (v : BX7) (x : (Nat → Int32)) : pX7_view (sX7_rays v x) = pX7_view v := rfl
theorem q7_rays_rays (v : BX7) (x : (Nat → Int32)) : pX7_rays (sX7_rays v x) = x := rfl
theorem q8_rules_rules (v : BX8) (x : Int32) : pX8_rules (sX8_rules v x) = x := rfl
theorem q8_codes_rules (v : BX8) (x : Int32) : pX8_codes (sX8_rules v x) = pX8_codes v := rfl
theorem q8_rules_codes (v : BX8) (x : (Nat → Option Nat)) : pX8_rules (sX8_codes v x) = pX8_rules v := rfl
theorem q8_codes_codes (v : BX8) (x : (Nat → Option Nat)) : pX8_codes (sX8_codes v x) = x := rfl
theorem q9_count_count (v : BX9) (x : Int32) : pX9_count (sX9_count v x) = x := rfl
theorem q9_next_count (v : BX9) (x : Int32) : pX9_next (sX9_count v x) = pX9_next v := rfl
theorem q9_kind_count (v : BX9) (x : Int32) : pX9_kind (sX9_count v x) = pX9_kind v := rfl
theorem q9_start_count (v : BX9) (x : Int32) : pX9_start (sX9_count v x) = pX9_start v := rfl
theorem q9_value_count (v : BX9) (x : Int32) : pX9_value (sX9_count v x) = pX9_value v := rfl
theorem q9_kinds_count (v : BX9) (x : Int32) : pX9_kinds (sX9_count v x) = pX9_kinds v := rfl
theorem q9_starts_count (v : BX9) (x : Int32) : pX9_starts (sX9_count v x) = pX9_starts v := rfl
theorem q9_values_count (v : BX9) (x : Int32) : pX9_values (sX9_count v x) = pX9_values v := rfl
theorem q9_count_next (v : BX9) (x : Int32) : pX9_count (sX9_next v x) = pX9_count v := rfl
theorem q9_next_next (v : BX9) (x : Int32) : pX9_next (sX9_next v x) = x := rfl
theorem q9_kind_next (v : BX9) (x : Int32) : pX9_kind (sX9_next v x) = pX9_kind v := rfl
theorem q9_start_next (v : BX9) (x : Int32) : pX9_start (sX9_next v x) = pX9_start v := rfl
theorem q9_value_next (v : BX9) (x : Int32) : pX9_value (sX9_next v x) = pX9_value v := rfl
theorem q9_kinds_next (v : BX9) (x : Int32) : pX9_kinds (sX9_next v x) = pX9_kinds v := rfl
theorem q9_starts_next (v : BX9) (x : Int32) : pX9_starts (sX9_next v x) = pX9_starts v := rfl
theorem q9_values_next (v : BX9) (x : Int32) : pX9_values (sX9_next v x) = pX9_values v := rfl
theorem q9_count_kind (v : BX9) (x : Int32) : pX9_count (sX9_kind v x) = pX9_count v := rfl
theorem q9_next_kind (v : BX9) (x : Int32) : pX9_next (sX9_kind v x) = pX9_next v := rfl
theorem q9_kind_kind (v : BX9) (x : Int32) : pX9_kind (sX9_kind v x) = x := rfl
theorem q9_start_kind (v : BX9) (x : Int32) : pX9_start (sX9_kind v x) = pX9_start v := rfl
theorem q9_value_kind (v : BX9) (x : Int32) : pX9_value (sX9_kind v x) = pX9_value v := rfl
theorem q9_kinds_kind (v : BX9) (x : Int32) : pX9_kinds (sX9_kind v x) = pX9_kinds v := rfl
theorem q9_starts_kind (v : BX9) (x : Int32) : pX9_starts (sX9_kind v x) = pX9_starts v := rfl
theorem q9_values_kind (v : BX9) (x : Int32) : pX9_values (sX9_kind v x) = pX9_values v := rfl
theorem q9_count_start (v : BX9) (x : Int32) : pX9_count (sX9_start v x) = pX9_count v := rfl
theorem q9_next_start (v : BX9) (x : Int32) : pX9_next (sX9_start v x) = pX9_next v := rfl
theorem q9_kind_start (v : BX9) (x : Int32) : pX9_kind (sX9_start v x) = pX9_kind v := rfl
theorem q9_start_start (v : BX9) (x : Int32) : pX9_start (sX9_start v x) = x := rfl
theorem q9_value_start (v : BX9) (x : Int32) : pX9_value (sX9_start v x) = pX9_value v := rfl
theorem q9_kinds_start (v : BX9) (x : Int32) : pX9_kinds (sX9_start v x) = pX9_kinds v := rfl
theorem q9_starts_start (v : BX9) (x : Int32) : pX9_starts (sX9_start v x) = pX9_starts v := rfl
theorem q9_values_start (v : BX9) (x : Int32) : pX9_values (sX9_start v x) = pX9_values v := rfl
theorem q9_count_value (v : BX9) (x : Int32) : pX9_count (sX9_value v x) = pX9_count v := rfl
theorem q9_next_value (v : BX9) (x : Int32) : pX9_next (sX9_value v x) = pX9_next v := rfl
theorem q9_kind_value (v : BX9) (x : Int32) : pX9_kind (sX9_value v x) = pX9_kind v := rfl
theorem q9_start_value (v : BX9) (x : Int32) : pX9_start (sX9_value v x) = pX9_start v := rfl
theorem q9_value_value (v : BX9) (x : Int32) : pX9_value (sX9_value v x) = x := rfl
theorem q9_kinds_value (v : BX9) (x : Int32) : pX9_kinds (sX9_value v x) = pX9_kinds v := rfl
theorem q9_starts_value (v : BX9) (x : Int32) : pX9_starts (sX9_value v x) = pX9_starts v := rfl
theorem q9_values_value (v : BX9) (x : Int32) : pX9_values (sX9_value v x) = pX9_values v := rfl
theorem q9_count_kinds (v : BX9) (x : (Nat → Int32)) : pX9_count (sX9_kinds v x) = pX9_count v := rfl
theorem q9_next_kinds (v : BX9) (x : (Nat → Int32)) : pX9_next (sX9_kinds v x) = pX9_next v := rfl
theorem q9_kind_kinds (v : BX9) (x : (Nat → Int32)) : pX9_kind (sX9_kinds v x) = pX9_kind v := rfl
theorem q9_start_kinds (v : BX9) (x : (Nat → Int32)) : pX9_start (sX9_kinds v x) = pX9_start v := rfl
theorem q9_value_kinds (v : BX9) (x : (Nat → Int32)) : pX9_value (sX9_kinds v x) = pX9_value v := rfl
theorem q9_kinds_kinds (v : BX9) (x : (Nat → Int32)) : pX9_kinds (sX9_kinds v x) = x := rfl
theorem q9_starts_kinds (v : BX9) (x : (Nat → Int32)) : pX9_starts (sX9_kinds v x) = pX9_starts v := rfl
theorem q9_values_kinds (v : BX9) (x : (Nat → Int32)) : pX9_values (sX9_kinds v x) = pX9_values v := rfl
theorem q9_count_starts (v : BX9) (x : (Nat → Int32)) : pX9_count (sX9_starts v x) = pX9_count v := rfl
theorem q9_next_starts (v : BX9) (x : (Nat → Int32)) : pX9_next (sX9_starts v x) = pX9_next v := rfl
theorem q9_kind_starts (v : BX9) (x : (Nat → Int32)) : pX9_kind (sX9_starts v x) = pX9_kind v := rfl
theorem q9_start_starts (v : BX9) (x : (Nat → Int32)) : pX9_start (sX9_starts v x) = pX9_start v := rfl
theorem q9_value_starts (v : BX9) (x : (Nat → Int32)) : pX9_value (sX9_starts v x) = pX9_value v := rfl
theorem q9_kinds_starts (v : BX9) (x : (Nat → Int32)) : pX9_kinds (sX9_starts v x) = pX9_kinds v := rfl
theorem q9_starts_starts (v : BX9) (x : (Nat → Int32)) : pX9_starts (sX9_starts v x) = x := rfl
theorem q9_values_starts (v : BX9) (x : (Nat → Int32)) : pX9_values (sX9_starts v x) = pX9_values v := rfl
theorem q9_count_values (v : BX9) (x : (Nat → Int32)) : pX9_count (sX9_values v x) = pX9_count v := rfl
theorem q9_next_values (v : BX9) (x : (Nat → Int32)) : pX9_next (sX9_values v x) = pX9_next v := rfl
theorem q9_kind_values (v : BX9) (x : (Nat → Int32)) : pX9_kind (sX9_values v x) = pX9_kind v := rfl
theorem q9_start_values (v : BX9) (x : (Nat → Int32)) : pX9_start (sX9_values v x) = pX9_start v := rfl
theorem q9_value_values (v : BX9) (x : (Nat → Int32)) : pX9_value (sX9_values v x) = pX9_value v := rfl
theorem q9_kinds_values (v : BX9) (x : (Nat → Int32)) : pX9_kinds (sX9_values v x) = pX9_kinds v := rfl
theorem q9_starts_values (v : BX9) (x : (Nat → Int32)) : pX9_starts (sX9_values v x) = pX9_starts v := rfl
theorem q9_values_values (v : BX9) (x : (Nat → Int32)) : pX9_values (sX9_values v x) = x := rfl
theorem q10_n_w (v : BX10) (x : Int32) : pX10_n (sX10_w v x) = pX10_n v := rfl
theorem q10_w_w (v : BX10) (x : Int32) : pX10_w (sX10_w v x) = x := rfl
theorem q10_h_w (v : BX10) (x : Int32) : pX10_h (sX10_w v x) = pX10_h v := rfl
theorem q10_bodies_w (v : BX10) (x : Int32) : pX10_bodies (sX10_w v x) = pX10_bodies v := rfl
theorem q10_own_w (v : BX10) (x : Int32) : pX10_own (sX10_w v x) = pX10_own v := rfl
theorem q10_bodyX_w (v : BX10) (x : Int32) : pX10_bodyX (sX10_w v x) = pX10_bodyX v := rfl
theorem q10_bodyY_w (v : BX10) (x : Int32) : pX10_bodyY (sX10_w v x) = pX10_bodyY v := rfl
theorem q10_bodyWayX_w (v : BX10) (x : Int32) : pX10_bodyWayX (sX10_w v x) = pX10_bodyWayX v := rfl
theorem q10_bodyWayY_w (v : BX10) (x : Int32) : pX10_bodyWayY (sX10_w v x) = pX10_bodyWayY v := rfl
theorem q10_bodyMark_w (v : BX10) (x : Int32) : pX10_bodyMark (sX10_w v x) = pX10_bodyMark v := rfl
theorem q10_n_h (v : BX10) (x : Int32) : pX10_n (sX10_h v x) = pX10_n v := rfl
theorem q10_w_h (v : BX10) (x : Int32) : pX10_w (sX10_h v x) = pX10_w v := rfl
theorem q10_h_h (v : BX10) (x : Int32) : pX10_h (sX10_h v x) = x := rfl
theorem q10_bodies_h (v : BX10) (x : Int32) : pX10_bodies (sX10_h v x) = pX10_bodies v := rfl
theorem q10_own_h (v : BX10) (x : Int32) : pX10_own (sX10_h v x) = pX10_own v := rfl
theorem q10_bodyX_h (v : BX10) (x : Int32) : pX10_bodyX (sX10_h v x) = pX10_bodyX v := rfl
theorem q10_bodyY_h (v : BX10) (x : Int32) : pX10_bodyY (sX10_h v x) = pX10_bodyY v := rfl
theorem q10_bodyWayX_h (v : BX10) (x : Int32) : pX10_bodyWayX (sX10_h v x) = pX10_bodyWayX v := rfl
theorem q10_bodyWayY_h (v : BX10) (x : Int32) : pX10_bodyWayY (sX10_h v x) = pX10_bodyWayY v := rfl
theorem q10_bodyMark_h (v : BX10) (x : Int32) : pX10_bodyMark (sX10_h v x) = pX10_bodyMark v := rfl
theorem q10_n_bodies (v : BX10) (x : Int32) : pX10_n (sX10_bodies v x) = pX10_n v := rfl
theorem q10_w_bodies (v : BX10) (x : Int32) : pX10_w (sX10_bodies v x) = pX10_w v := rfl
theorem q10_h_bodies (v : BX10) (x : Int32) : pX10_h (sX10_bodies v x) = pX10_h v := rfl
theorem q10_bodies_bodies (v : BX10) (x : Int32) : pX10_bodies (sX10_bodies v x) = x := rfl
theorem q10_own_bodies (v : BX10) (x : Int32) : pX10_own (sX10_bodies v x) = pX10_own v := rfl
theorem q10_bodyX_bodies (v : BX10) (x : Int32) : pX10_bodyX (sX10_bodies v x) = pX10_bodyX v := rfl
theorem q10_bodyY_bodies (v : BX10) (x : Int32) : pX10_bodyY (sX10_bodies v x) = pX10_bodyY v := rfl
theorem q10_bodyWayX_bodies (v : BX10) (x : Int32) : pX10_bodyWayX (sX10_bodies v x) = pX10_bodyWayX v := rfl
theorem q10_bodyWayY_bodies (v : BX10) (x : Int32) : pX10_bodyWayY (sX10_bodies v x) = pX10_bodyWayY v := rfl
theorem q10_bodyMark_bodies (v : BX10) (x : Int32) : pX10_bodyMark (sX10_bodies v x) = pX10_bodyMark v := rfl
theorem q10_n_own (v : BX10) (x : (Nat → Int32)) : pX10_n (sX10_own v x) = pX10_n v := rfl
theorem q10_w_own (v : BX10) (x : (Nat → Int32)) : pX10_w (sX10_own v x) = pX10_w v := rfl
theorem q10_h_own (v : BX10) (x : (Nat → Int32)) : pX10_h (sX10_own v x) = pX10_h v := rfl
theorem q10_bodies_own (v : BX10) (x : (Nat → Int32)) : pX10_bodies (sX10_own v x) = pX10_bodies v := rfl
theorem q10_own_own (v : BX10) (x : (Nat → Int32)) : pX10_own (sX10_own v x) = x := rfl
theorem q10_bodyX_own (v : BX10) (x : (Nat → Int32)) : pX10_bodyX (sX10_own v x) = pX10_bodyX v := rfl
theorem q10_bodyY_own (v : BX10) (x : (Nat → Int32)) : pX10_bodyY (sX10_own v x) = pX10_bodyY v := rfl
theorem q10_bodyWayX_own (v : BX10) (x : (Nat → Int32)) : pX10_bodyWayX (sX10_own v x) = pX10_bodyWayX v := rfl
theorem q10_bodyWayY_own (v : BX10) (x : (Nat → Int32)) : pX10_bodyWayY (sX10_own v x) = pX10_bodyWayY v := rfl
theorem q10_bodyMark_own (v : BX10) (x : (Nat → Int32)) : pX10_bodyMark (sX10_own v x) = pX10_bodyMark v := rfl
theorem q10_n_bodyX (v : BX10) (x : (Nat → Int32)) : pX10_n (sX10_bodyX v x) = pX10_n v := rfl
theorem q10_w_bodyX (v : BX10) (x : (Nat → Int32)) : pX10_w (sX10_bodyX v x) = pX10_w v := rfl
theorem q10_h_bodyX (v : BX10) (x : (Nat → Int32)) : pX10_h (sX10_bodyX v x) = pX10_h v := rfl
theorem q10_bodies_bodyX (v : BX10) (x : (Nat → Int32)) : pX10_bodies (sX10_bodyX v x) = pX10_bodies v := rfl
theorem q10_own_bodyX (v : BX10) (x : (Nat → Int32)) : pX10_own (sX10_bodyX v x) = pX10_own v := rfl
theorem q10_bodyX_bodyX (v : BX10) (x : (Nat → Int32)) : pX10_bodyX (sX10_bodyX v x) = x := rfl
theorem q10_bodyY_bodyX (v : BX10) (x : (Nat → Int32)) : pX10_bodyY (sX10_bodyX v x) = pX10_bodyY v := rfl
theorem q10_bodyWayX_bodyX (v : BX10) (x : (Nat → Int32)) : pX10_bodyWayX (sX10_bodyX v x) = pX10_bodyWayX v := rfl
theorem q10_bodyWayY_bodyX (v : BX10) (x : (Nat → Int32)) : pX10_bodyWayY (sX10_bodyX v x) = pX10_bodyWayY v := rfl
theorem q10_bodyMark_bodyX (v : BX10) (x : (Nat → Int32)) : pX10_bodyMark (sX10_bodyX v x) = pX10_bodyMark v := rfl
theorem q10_n_bodyY (v : BX10) (x : (Nat → Int32)) : pX10_n (sX10_bodyY v x) = pX10_n v := rfl
theorem q10_w_bodyY (v : BX10) (x : (Nat → Int32)) : pX10_w (sX10_bodyY v x) = pX10_w v := rfl
theorem q10_h_bodyY (v : BX10) (x : (Nat → Int32)) : pX10_h (sX10_bodyY v x) = pX10_h v := rfl
theorem q10_bodies_bodyY (v : BX10) (x : (Nat → Int32)) : pX10_bodies (sX10_bodyY v x) = pX10_bodies v := rfl
theorem q10_own_bodyY (v : BX10) (x : (Nat → Int32)) : pX10_own (sX10_bodyY v x) = pX10_own v := rfl
theorem q10_bodyX_bodyY (v : BX10) (x : (Nat → Int32)) : pX10_bodyX (sX10_bodyY v x) = pX10_bodyX v := rfl
theorem q10_bodyY_bodyY (v : BX10) (x : (Nat → Int32)) : pX10_bodyY (sX10_bodyY v x) = x := rfl
theorem q10_bodyWayX_bodyY (v : BX10) (x : (Nat → Int32)) : pX10_bodyWayX (sX10_bodyY v x) = pX10_bodyWayX v := rfl
theorem q10_bodyWayY_bodyY (v : BX10) (x : (Nat → Int32)) : pX10_bodyWayY (sX10_bodyY v x) = pX10_bodyWayY v := rfl
theorem q10_bodyMark_bodyY (v : BX10) (x : (Nat → Int32)) : pX10_bodyMark (sX10_bodyY v x) = pX10_bodyMark v := rfl
theorem q10_n_bodyWayX (v : BX10) (x : (Nat → Int32)) : pX10_n (sX10_bodyWayX v x) = pX10_n v := rfl
theorem q10_w_bodyWayX (v : BX10) (x : (Nat → Int32)) : pX10_w (sX10_bodyWayX v x) = pX10_w v := rfl
theorem q10_h_bodyWayX (v : BX10) (x : (Nat → Int32)) : pX10_h (sX10_bodyWayX v x) = pX10_h v := rfl
theorem q10_bodies_bodyWayX (v : BX10) (x : (Nat → Int32)) : pX10_bodies (sX10_bodyWayX v x) = pX10_bodies v := rfl
theorem q10_own_bodyWayX (v : BX10) (x : (Nat → Int32)) : pX10_own (sX10_bodyWayX v x) = pX10_own v := rfl
theorem q10_bodyX_bodyWayX (v : BX10) (x : (Nat → Int32)) : pX10_bodyX (sX10_bodyWayX v x) = pX10_bodyX v := rfl
theorem q10_bodyY_bodyWayX (v : BX10) (x : (Nat → Int32)) : pX10_bodyY (sX10_bodyWayX v x) = pX10_bodyY v := rfl
theorem q10_bodyWayX_bodyWayX (v : BX10) (x : (Nat → Int32)) : pX10_bodyWayX (sX10_bodyWayX v x) = x := rfl
theorem q10_bodyWayY_bodyWayX (v : BX10) (x : (Nat → Int32)) : pX10_bodyWayY (sX10_bodyWayX v x) = pX10_bodyWayY v := rfl
theorem q10_bodyMark_bodyWayX (v : BX10) (x : (Nat → Int32)) : pX10_bodyMark (sX10_bodyWayX v x) = pX10_bodyMark v := rfl
theorem q10_n_bodyWayY (v : BX10) (x : (Nat → Int32)) : pX10_n (sX10_bodyWayY v x) = pX10_n v := rfl
theorem q10_w_bodyWayY (v : BX10) (x : (Nat → Int32)) : pX10_w (sX10_bodyWayY v x) = pX10_w v := rfl
theorem q10_h_bodyWayY (v : BX10) (x : (Nat → Int32)) : pX10_h (sX10_bodyWayY v x) = pX10_h v := rfl
theorem q10_bodies_bodyWayY (v : BX10) (x : (Nat → Int32)) : pX10_bodies (sX10_bodyWayY v x) = pX10_bodies v := rfl
theorem q10_own_bodyWayY (v : BX10) (x : (Nat → Int32)) : pX10_own (sX10_bodyWayY v x) = pX10_own v := rfl
theorem q10_bodyX_bodyWayY (v : BX10) (x : (Nat → Int32)) : pX10_bodyX (sX10_bodyWayY v x) = pX10_bodyX v := rfl
theorem q10_bodyY_bodyWayY (v : BX10) (x : (Nat → Int32)) : pX10_bodyY (sX10_bodyWayY v x) = pX10_bodyY v := rfl
theorem q10_bodyWayX_bodyWayY (v : BX10) (x : (Nat → Int32)) : pX10_bodyWayX (sX10_bodyWayY v x) = pX10_bodyWayX v := rfl
theorem q10_bodyWayY_bodyWayY (v : BX10) (x : (Nat → Int32)) : pX10_bodyWayY (sX10_bodyWayY v x) = x := rfl
theorem q10_bodyMark_bodyWayY (v : BX10) (x : (Nat → Int32)) : pX10_bodyMark (sX10_bodyWayY v x) = pX10_bodyMark v := rfl
theorem q10_n_bodyMark (v : BX10) (x : (Nat → Int32)) : pX10_n (sX10_bodyMark v x) = pX10_n v := rfl
theorem q10_w_bodyMark (v : BX10) (x : (Nat → Int32)) : pX10_w (sX10_bodyMark v x) = pX10_w v := rfl
theorem q10_h_bodyMark (v : BX10) (x : (Nat → Int32)) : pX10_h (sX10_bodyMark v x) = pX10_h v := rfl
theorem q10_bodies_bodyMark (v : BX10) (x : (Nat → Int32)) : pX10_bodies (sX10_bodyMark v x) = pX10_bodies v := rfl
theorem q10_own_bodyMark (v : BX10) (x : (Nat → Int32)) : pX10_own (sX10_bodyMark v x) = pX10_own v := rfl
theorem q10_bodyX_bodyMark (v : BX10) (x : (Nat → Int32)) : pX10_bodyX (sX10_bodyMark v x) = pX10_bodyX v := rfl
theorem q10_bodyY_bodyMark (v : BX10) (x : (Nat → Int32)) : pX10_bodyY (sX10_bodyMark v x) = pX10_bodyY v := rfl
theorem q10_bodyWayX_bodyMark (v : BX10) (x : (Nat → Int32)) : pX10_bodyWayX (sX10_bodyMark v x) = pX10_bodyWayX v := rfl
theorem q10_bodyWayY_bodyMark (v : BX10) (x : (Nat → Int32)) : pX10_bodyWayY (sX10_bodyMark v x) = pX10_bodyWayY v := rfl
theorem q10_bodyMark_bodyMark (v : BX10) (x : (Nat → Int32)) : pX10_bodyMark (sX10_bodyMark v x) = x := rfl
theorem q11_tapeSize_tapeSize (v : BX11) (x : Int32) : pX11_tapeSize (sX11_tapeSize v x) = x := rfl
theorem q11_textRead_tapeSize (v : BX11) (x : Int32) : pX11_textRead (sX11_tapeSize v x) = pX11_textRead v := rfl
theorem q11_tape_tapeSize (v : BX11) (x : Int32) : pX11_tape (sX11_tapeSize v x) = pX11_tape v := rfl
theorem q11_firstTakes_tapeSize (v : BX11) (x : Int32) : pX11_firstTakes (sX11_tapeSize v x) = pX11_firstTakes v := rfl
theorem q11_tapeSize_textRead (v : BX11) (x : Int32) : pX11_tapeSize (sX11_textRead v x) = pX11_tapeSize v := rfl
theorem q11_textRead_textRead (v : BX11) (x : Int32) : pX11_textRead (sX11_textRead v x) = x := rfl
theorem q11_tape_textRead (v : BX11) (x : Int32) : pX11_tape (sX11_textRead v x) = pX11_tape v := rfl
theorem q11_firstTakes_textRead (v : BX11) (x : Int32) : pX11_firstTakes (sX11_textRead v x) = pX11_firstTakes v := rfl
theorem q11_tapeSize_tape (v : BX11) (x : (Nat → Int32)) : pX11_tapeSize (sX11_tape v x) = pX11_tapeSize v := rfl
theorem q11_textRead_tape (v : BX11) (x : (Nat → Int32)) : pX11_textRead (sX11_tape v x) = pX11_textRead v := rfl
theorem q11_tape_tape (v : BX11) (x : (Nat → Int32)) : pX11_tape (sX11_tape v x) = x := rfl
theorem q11_firstTakes_tape (v : BX11) (x : (Nat → Int32)) : pX11_firstTakes (sX11_tape v x) = pX11_firstTakes v := rfl
theorem q11_tapeSize_firstTakes (v : BX11) (x : (Nat → Int32)) : pX11_tapeSize (sX11_firstTakes v x) = pX11_tapeSize v := rfl
theorem q11_textRead_firstTakes (v : BX11) (x : (Nat → Int32)) : pX11_textRead (sX11_firstTakes v x) = pX11_textRead v := rfl
theorem q11_tape_firstTakes (v : BX11) (x : (Nat → Int32)) : pX11_tape (sX11_firstTakes v x) = pX11_tape v := rfl
theorem q11_firstTakes_firstTakes (v : BX11) (x : (Nat → Int32)) : pX11_firstTakes (sX11_firstTakes v x) = x := rfl
theorem q12_w_w (v : BX12) (x : Int32) : pX12_w (sX12_w v x) = x := rfl
theorem q12_h_w (v : BX12) (x : Int32) : pX12_h (sX12_w v x) = pX12_h v := rfl
theorem q12_taped_w (v : BX12) (x : Int32) : pX12_taped (sX12_w v x) = pX12_taped v := rfl
theorem q12_fault_w (v : BX12) (x : Int32) : pX12_fault (sX12_w v x) = pX12_fault v := rfl
theorem q12_faultPlace_w (v : BX12) (x : Int32) : pX12_faultPlace (sX12_w v x) = pX12_faultPlace v := rfl
theorem q12_at_w (v : BX12) (x : Int32) : pX12_at (sX12_w v x) = pX12_at v := rfl
theorem q12_place_w (v : BX12) (x : Int32) : pX12_place (sX12_w v x) = pX12_place v := rfl
theorem q12_token_w (v : BX12) (x : Int32) : pX12_token (sX12_w v x) = pX12_token v := rfl
theorem q12_number_w (v : BX12) (x : Int32) : pX12_number (sX12_w v x) = pX12_number v := rfl
theorem q12_word_w (v : BX12) (x : Int32) : pX12_word (sX12_w v x) = pX12_word v := rfl
theorem q12_text0_w (v : BX12) (x : Int32) : pX12_text0 (sX12_w v x) = pX12_text0 v := rfl
theorem q12_clauses_w (v : BX12) (x : Int32) : pX12_clauses (sX12_w v x) = pX12_clauses v := rfl
theorem q12_written_w (v : BX12) (x : Int32) : pX12_written (sX12_w v x) = pX12_written v := rfl
theorem q12_came_w (v : BX12) (x : Int32) : pX12_came (sX12_w v x) = pX12_came v := rfl
theorem q12_letters_w (v : BX12) (x : Int32) : pX12_letters (sX12_w v x) = pX12_letters v := rfl
theorem q12_piled_w (v : BX12) (x : Int32) : pX12_piled (sX12_w v x) = pX12_piled v := rfl
theorem q12_opens_w (v : BX12) (x : Int32) : pX12_opens (sX12_w v x) = pX12_opens v := rfl
theorem q12_isWhole_w (v : BX12) (x : Int32) : pX12_isWhole (sX12_w v x) = pX12_isWhole v := rfl
theorem q12_bound_w (v : BX12) (x : Int32) : pX12_bound (sX12_w v x) = pX12_bound v := rfl
theorem q12_over_w (v : BX12) (x : Int32) : pX12_over (sX12_w v x) = pX12_over v := rfl
theorem q12_ticks_w (v : BX12) (x : Int32) : pX12_ticks (sX12_w v x) = pX12_ticks v := rfl
theorem q12_atX_w (v : BX12) (x : Int32) : pX12_atX (sX12_w v x) = pX12_atX v := rfl
theorem q12_atY_w (v : BX12) (x : Int32) : pX12_atY (sX12_w v x) = pX12_atY v := rfl
theorem q12_heading_w (v : BX12) (x : Int32) : pX12_heading (sX12_w v x) = pX12_heading v := rfl
theorem q12_hit_w (v : BX12) (x : Int32) : pX12_hit (sX12_w v x) = pX12_hit v := rfl
theorem q12_rested_w (v : BX12) (x : Int32) : pX12_rested (sX12_w v x) = pX12_rested v := rfl
theorem q12_now_w (v : BX12) (x : Int32) : pX12_now (sX12_w v x) = pX12_now v := rfl
theorem q12_turn_w (v : BX12) (x : Int32) : pX12_turn (sX12_w v x) = pX12_turn v := rfl
theorem q12_go_w (v : BX12) (x : Int32) : pX12_go (sX12_w v x) = pX12_go v := rfl
theorem q12_a_w (v : BX12) (x : Int32) : pX12_a (sX12_w v x) = pX12_a v := rfl
theorem q12_image_w (v : BX12) (x : Int32) : pX12_image (sX12_w v x) = pX12_image v := rfl
theorem q12_texts_w (v : BX12) (x : Int32) : pX12_texts (sX12_w v x) = pX12_texts v := rfl
theorem q12_board_w (v : BX12) (x : Int32) : pX12_board (sX12_w v x) = pX12_board v := rfl
theorem q12_taken_w (v : BX12) (x : Int32) : pX12_taken (sX12_w v x) = pX12_taken v := rfl
theorem q12_fars_w (v : BX12) (x : Int32) : pX12_fars (sX12_w v x) = pX12_fars v := rfl
theorem q12_before_w (v : BX12) (x : Int32) : pX12_before (sX12_w v x) = pX12_before v := rfl
theorem q12_tape_w (v : BX12) (x : Int32) : pX12_tape (sX12_w v x) = pX12_tape v := rfl
theorem q12_pile_w (v : BX12) (x : Int32) : pX12_pile (sX12_w v x) = pX12_pile v := rfl
theorem q12_rows_w (v : BX12) (x : Int32) : pX12_rows (sX12_w v x) = pX12_rows v := rfl
theorem q12_told_w (v : BX12) (x : Int32) : pX12_told (sX12_w v x) = pX12_told v := rfl
theorem q12_values_w (v : BX12) (x : Int32) : pX12_values (sX12_w v x) = pX12_values v := rfl
theorem q12_truth_w (v : BX12) (x : Int32) : pX12_truth (sX12_w v x) = pX12_truth v := rfl
theorem q12_keeps_w (v : BX12) (x : Int32) : pX12_keeps (sX12_w v x) = pX12_keeps v := rfl
theorem q12_w_h (v : BX12) (x : Int32) : pX12_w (sX12_h v x) = pX12_w v := rfl
theorem q12_h_h (v : BX12) (x : Int32) : pX12_h (sX12_h v x) = x := rfl
theorem q12_taped_h (v : BX12) (x : Int32) : pX12_taped (sX12_h v x) = pX12_taped v := rfl
theorem q12_fault_h (v : BX12) (x : Int32) : pX12_fault (sX12_h v x) = pX12_fault v := rfl
theorem q12_faultPlace_h (v : BX12) (x : Int32) : pX12_faultPlace (sX12_h v x) = pX12_faultPlace v := rfl
theorem q12_at_h (v : BX12) (x : Int32) : pX12_at (sX12_h v x) = pX12_at v := rfl
theorem q12_place_h (v : BX12) (x : Int32) : pX12_place (sX12_h v x) = pX12_place v := rfl
theorem q12_token_h (v : BX12) (x : Int32) : pX12_token (sX12_h v x) = pX12_token v := rfl
theorem q12_number_h (v : BX12) (x : Int32) : pX12_number (sX12_h v x) = pX12_number v := rfl
theorem q12_word_h (v : BX12) (x : Int32) : pX12_word (sX12_h v x) = pX12_word v := rfl
theorem q12_text0_h (v : BX12) (x : Int32) : pX12_text0 (sX12_h v x) = pX12_text0 v := rfl
theorem q12_clauses_h (v : BX12) (x : Int32) : pX12_clauses (sX12_h v x) = pX12_clauses v := rfl
theorem q12_written_h (v : BX12) (x : Int32) : pX12_written (sX12_h v x) = pX12_written v := rfl
theorem q12_came_h (v : BX12) (x : Int32) : pX12_came (sX12_h v x) = pX12_came v := rfl
theorem q12_letters_h (v : BX12) (x : Int32) : pX12_letters (sX12_h v x) = pX12_letters v := rfl
theorem q12_piled_h (v : BX12) (x : Int32) : pX12_piled (sX12_h v x) = pX12_piled v := rfl
theorem q12_opens_h (v : BX12) (x : Int32) : pX12_opens (sX12_h v x) = pX12_opens v := rfl
theorem q12_isWhole_h (v : BX12) (x : Int32) : pX12_isWhole (sX12_h v x) = pX12_isWhole v := rfl
theorem q12_bound_h (v : BX12) (x : Int32) : pX12_bound (sX12_h v x) = pX12_bound v := rfl
theorem q12_over_h (v : BX12) (x : Int32) : pX12_over (sX12_h v x) = pX12_over v := rfl
theorem q12_ticks_h (v : BX12) (x : Int32) : pX12_ticks (sX12_h v x) = pX12_ticks v := rfl
theorem q12_atX_h (v : BX12) (x : Int32) : pX12_atX (sX12_h v x) = pX12_atX v := rfl
theorem q12_atY_h (v : BX12) (x : Int32) : pX12_atY (sX12_h v x) = pX12_atY v := rfl
theorem q12_heading_h (v : BX12) (x : Int32) : pX12_heading (sX12_h v x) = pX12_heading v := rfl
theorem q12_hit_h (v : BX12) (x : Int32) : pX12_hit (sX12_h v x) = pX12_hit v := rfl
theorem q12_rested_h (v : BX12) (x : Int32) : pX12_rested (sX12_h v x) = pX12_rested v := rfl
theorem q12_now_h (v : BX12) (x : Int32) : pX12_now (sX12_h v x) = pX12_now v := rfl
theorem q12_turn_h (v : BX12) (x : Int32) : pX12_turn (sX12_h v x) = pX12_turn v := rfl
theorem q12_go_h (v : BX12) (x : Int32) : pX12_go (sX12_h v x) = pX12_go v := rfl
theorem q12_a_h (v : BX12) (x : Int32) : pX12_a (sX12_h v x) = pX12_a v := rfl
theorem q12_image_h (v : BX12) (x : Int32) : pX12_image (sX12_h v x) = pX12_image v := rfl
theorem q12_texts_h (v : BX12) (x : Int32) : pX12_texts (sX12_h v x) = pX12_texts v := rfl
theorem q12_board_h (v : BX12) (x : Int32) : pX12_board (sX12_h v x) = pX12_board v := rfl
theorem q12_taken_h (v : BX12) (x : Int32) : pX12_taken (sX12_h v x) = pX12_taken v := rfl
theorem q12_fars_h (v : BX12) (x : Int32) : pX12_fars (sX12_h v x) = pX12_fars v := rfl
theorem q12_before_h (v : BX12) (x : Int32) : pX12_before (sX12_h v x) = pX12_before v := rfl
theorem q12_tape_h (v : BX12) (x : Int32) : pX12_tape (sX12_h v x) = pX12_tape v := rfl
theorem q12_pile_h (v : BX12) (x : Int32) : pX12_pile (sX12_h v x) = pX12_pile v := rfl
theorem q12_rows_h (v : BX12) (x : Int32) : pX12_rows (sX12_h v x) = pX12_rows v := rfl
theorem q12_told_h (v : BX12) (x : Int32) : pX12_told (sX12_h v x) = pX12_told v := rfl
theorem q12_values_h (v : BX12) (x : Int32) : pX12_values (sX12_h v x) = pX12_values v := rfl
theorem q12_truth_h (v : BX12) (x : Int32) : pX12_truth (sX12_h v x) = pX12_truth v := rfl
theorem q12_keeps_h (v : BX12) (x : Int32) : pX12_keeps (sX12_h v x) = pX12_keeps v := rfl
theorem q12_w_taped (v : BX12) (x : Int32) : pX12_w (sX12_taped v x) = pX12_w v := rfl
theorem q12_h_taped (v : BX12) (x : Int32) : pX12_h (sX12_taped v x) = pX12_h v := rfl
theorem q12_taped_taped (v : BX12) (x : Int32) : pX12_taped (sX12_taped v x) = x := rfl
theorem q12_fault_taped (v : BX12) (x : Int32) : pX12_fault (sX12_taped v x) = pX12_fault v := rfl
theorem q12_faultPlace_taped (v : BX12) (x : Int32) : pX12_faultPlace (sX12_taped v x) = pX12_faultPlace v := rfl
theorem q12_at_taped (v : BX12) (x : Int32) : pX12_at (sX12_taped v x) = pX12_at v := rfl
theorem q12_place_taped (v : BX12) (x : Int32) : pX12_place (sX12_taped v x) = pX12_place v := rfl
theorem q12_token_taped (v : BX12) (x : Int32) : pX12_token (sX12_taped v x) = pX12_token v := rfl
theorem q12_number_taped (v : BX12) (x : Int32) : pX12_number (sX12_taped v x) = pX12_number v := rfl
theorem q12_word_taped (v : BX12) (x : Int32) : pX12_word (sX12_taped v x) = pX12_word v := rfl
theorem q12_text0_taped (v : BX12) (x : Int32) : pX12_text0 (sX12_taped v x) = pX12_text0 v := rfl
theorem q12_clauses_taped (v : BX12) (x : Int32) : pX12_clauses (sX12_taped v x) = pX12_clauses v := rfl
theorem q12_written_taped (v : BX12) (x : Int32) : pX12_written (sX12_taped v x) = pX12_written v := rfl
theorem q12_came_taped (v : BX12) (x : Int32) : pX12_came (sX12_taped v x) = pX12_came v := rfl
theorem q12_letters_taped (v : BX12) (x : Int32) : pX12_letters (sX12_taped v x) = pX12_letters v := rfl
theorem q12_piled_taped (v : BX12) (x : Int32) : pX12_piled (sX12_taped v x) = pX12_piled v := rfl
theorem q12_opens_taped (v : BX12) (x : Int32) : pX12_opens (sX12_taped v x) = pX12_opens v := rfl
theorem q12_isWhole_taped (v : BX12) (x : Int32) : pX12_isWhole (sX12_taped v x) = pX12_isWhole v := rfl
theorem q12_bound_taped (v : BX12) (x : Int32) : pX12_bound (sX12_taped v x) = pX12_bound v := rfl
theorem q12_over_taped (v : BX12) (x : Int32) : pX12_over (sX12_taped v x) = pX12_over v := rfl
theorem q12_ticks_taped (v : BX12) (x : Int32) : pX12_ticks (sX12_taped v x) = pX12_ticks v := rfl
theorem q12_atX_taped (v : BX12) (x : Int32) : pX12_atX (sX12_taped v x) = pX12_atX v := rfl
theorem q12_atY_taped (v : BX12) (x : Int32) : pX12_atY (sX12_taped v x) = pX12_atY v := rfl
theorem q12_heading_taped (v : BX12) (x : Int32) : pX12_heading (sX12_taped v x) = pX12_heading v := rfl
theorem q12_hit_taped (v : BX12) (x : Int32) : pX12_hit (sX12_taped v x) = pX12_hit v := rfl
theorem q12_rested_taped (v : BX12) (x : Int32) : pX12_rested (sX12_taped v x) = pX12_rested v := rfl
theorem q12_now_taped (v : BX12) (x : Int32) : pX12_now (sX12_taped v x) = pX12_now v := rfl
theorem q12_turn_taped (v : BX12) (x : Int32) : pX12_turn (sX12_taped v x) = pX12_turn v := rfl
theorem q12_go_taped (v : BX12) (x : Int32) : pX12_go (sX12_taped v x) = pX12_go v := rfl
theorem q12_a_taped (v : BX12) (x : Int32) : pX12_a (sX12_taped v x) = pX12_a v := rfl
theorem q12_image_taped (v : BX12) (x : Int32) : pX12_image (sX12_taped v x) = pX12_image v := rfl
theorem q12_texts_taped (v : BX12) (x : Int32) : pX12_texts (sX12_taped v x) = pX12_texts v := rfl
theorem q12_board_taped (v : BX12) (x : Int32) : pX12_board (sX12_taped v x) = pX12_board v := rfl
theorem q12_taken_taped (v : BX12) (x : Int32) : pX12_taken (sX12_taped v x) = pX12_taken v := rfl
theorem q12_fars_taped (v : BX12) (x : Int32) : pX12_fars (sX12_taped v x) = pX12_fars v := rfl
theorem q12_before_taped (v : BX12) (x : Int32) : pX12_before (sX12_taped v x) = pX12_before v := rfl
theorem q12_tape_taped (v : BX12) (x : Int32) : pX12_tape (sX12_taped v x) = pX12_tape v := rfl
theorem q12_pile_taped (v : BX12) (x : Int32) : pX12_pile (sX12_taped v x) = pX12_pile v := rfl
theorem q12_rows_taped (v : BX12) (x : Int32) : pX12_rows (sX12_taped v x) = pX12_rows v := rfl
theorem q12_told_taped (v : BX12) (x : Int32) : pX12_told (sX12_taped v x) = pX12_told v := rfl
theorem q12_values_taped (v : BX12) (x : Int32) : pX12_values (sX12_taped v x) = pX12_values v := rfl
theorem q12_truth_taped (v : BX12) (x : Int32) : pX12_truth (sX12_taped v x) = pX12_truth v := rfl
theorem q12_keeps_taped (v : BX12) (x : Int32) : pX12_keeps (sX12_taped v x) = pX12_keeps v := rfl
theorem q12_w_fault (v : BX12) (x : Int32) : pX12_w (sX12_fault v x) = pX12_w v := rfl
theorem q12_h_fault (v : BX12) (x : Int32) : pX12_h (sX12_fault v x) = pX12_h v := rfl
theorem q12_taped_fault (v : BX12) (x : Int32) : pX12_taped (sX12_fault v x) = pX12_taped v := rfl
theorem q12_fault_fault (v : BX12) (x : Int32) : pX12_fault (sX12_fault v x) = x := rfl
theorem q12_faultPlace_fault (v : BX12) (x : Int32) : pX12_faultPlace (sX12_fault v x) = pX12_faultPlace v := rfl
theorem q12_at_fault (v : BX12) (x : Int32) : pX12_at (sX12_fault v x) = pX12_at v := rfl
theorem q12_place_fault (v : BX12) (x : Int32) : pX12_place (sX12_fault v x) = pX12_place v := rfl
theorem q12_token_fault (v : BX12) (x : Int32) : pX12_token (sX12_fault v x) = pX12_token v := rfl
theorem q12_number_fault (v : BX12) (x : Int32) : pX12_number (sX12_fault v x) = pX12_number v := rfl
theorem q12_word_fault (v : BX12) (x : Int32) : pX12_word (sX12_fault v x) = pX12_word v := rfl
theorem q12_text0_fault (v : BX12) (x : Int32) : pX12_text0 (sX12_fault v x) = pX12_text0 v := rfl
theorem q12_clauses_fault (v : BX12) (x : Int32) : pX12_clauses (sX12_fault v x) = pX12_clauses v := rfl
theorem q12_written_fault (v : BX12) (x : Int32) : pX12_written (sX12_fault v x) = pX12_written v := rfl
theorem q12_came_fault (v : BX12) (x : Int32) : pX12_came (sX12_fault v x) = pX12_came v := rfl
theorem q12_letters_fault (v : BX12) (x : Int32) : pX12_letters (sX12_fault v x) = pX12_letters v := rfl
theorem q12_piled_fault (v : BX12) (x : Int32) : pX12_piled (sX12_fault v x) = pX12_piled v := rfl
theorem q12_opens_fault (v : BX12) (x : Int32) : pX12_opens (sX12_fault v x) = pX12_opens v := rfl
theorem q12_isWhole_fault (v : BX12) (x : Int32) : pX12_isWhole (sX12_fault v x) = pX12_isWhole v := rfl
theorem q12_bound_fault (v : BX12) (x : Int32) : pX12_bound (sX12_fault v x) = pX12_bound v := rfl
theorem q12_over_fault (v : BX12) (x : Int32) : pX12_over (sX12_fault v x) = pX12_over v := rfl
theorem q12_ticks_fault (v : BX12) (x : Int32) : pX12_ticks (sX12_fault v x) = pX12_ticks v := rfl
theorem q12_atX_fault (v : BX12) (x : Int32) : pX12_atX (sX12_fault v x) = pX12_atX v := rfl
theorem q12_atY_fault (v : BX12) (x : Int32) : pX12_atY (sX12_fault v x) = pX12_atY v := rfl
theorem q12_heading_fault (v : BX12) (x : Int32) : pX12_heading (sX12_fault v x) = pX12_heading v := rfl
theorem q12_hit_fault (v : BX12) (x : Int32) : pX12_hit (sX12_fault v x) = pX12_hit v := rfl
theorem q12_rested_fault (v : BX12) (x : Int32) : pX12_rested (sX12_fault v x) = pX12_rested v := rfl
theorem q12_now_fault (v : BX12) (x : Int32) : pX12_now (sX12_fault v x) = pX12_now v := rfl
theorem q12_turn_fault (v : BX12) (x : Int32) : pX12_turn (sX12_fault v x) = pX12_turn v := rfl
theorem q12_go_fault (v : BX12) (x : Int32) : pX12_go (sX12_fault v x) = pX12_go v := rfl
theorem q12_a_fault (v : BX12) (x : Int32) : pX12_a (sX12_fault v x) = pX12_a v := rfl
theorem q12_image_fault (v : BX12) (x : Int32) : pX12_image (sX12_fault v x) = pX12_image v := rfl
theorem q12_texts_fault (v : BX12) (x : Int32) : pX12_texts (sX12_fault v x) = pX12_texts v := rfl
theorem q12_board_fault (v : BX12) (x : Int32) : pX12_board (sX12_fault v x) = pX12_board v := rfl
theorem q12_taken_fault (v : BX12) (x : Int32) : pX12_taken (sX12_fault v x) = pX12_taken v := rfl
theorem q12_fars_fault (v : BX12) (x : Int32) : pX12_fars (sX12_fault v x) = pX12_fars v := rfl
theorem q12_before_fault (v : BX12) (x : Int32) : pX12_before (sX12_fault v x) = pX12_before v := rfl
theorem q12_tape_fault (v : BX12) (x : Int32) : pX12_tape (sX12_fault v x) = pX12_tape v := rfl
theorem q12_pile_fault (v : BX12) (x : Int32) : pX12_pile (sX12_fault v x) = pX12_pile v := rfl
theorem q12_rows_fault (v : BX12) (x : Int32) : pX12_rows (sX12_fault v x) = pX12_rows v := rfl
theorem q12_told_fault (v : BX12) (x : Int32) : pX12_told (sX12_fault v x) = pX12_told v := rfl
theorem q12_values_fault (v : BX12) (x : Int32) : pX12_values (sX12_fault v x) = pX12_values v := rfl
theorem q12_truth_fault (v : BX12) (x : Int32) : pX12_truth (sX12_fault v x) = pX12_truth v := rfl
theorem q12_keeps_fault (v : BX12) (x : Int32) : pX12_keeps (sX12_fault v x) = pX12_keeps v := rfl
theorem q12_w_faultPlace (v : BX12) (x : Int32) : pX12_w (sX12_faultPlace v x) = pX12_w v := rfl
theorem q12_h_faultPlace (v : BX12) (x : Int32) : pX12_h (sX12_faultPlace v x) = pX12_h v := rfl
theorem q12_taped_faultPlace (v : BX12) (x : Int32) : pX12_taped (sX12_faultPlace v x) = pX12_taped v := rfl
theorem q12_fault_faultPlace (v : BX12) (x : Int32) : pX12_fault (sX12_faultPlace v x) = pX12_fault v := rfl
theorem q12_faultPlace_faultPlace (v : BX12) (x : Int32) : pX12_faultPlace (sX12_faultPlace v x) = x := rfl
theorem q12_at_faultPlace (v : BX12) (x : Int32) : pX12_at (sX12_faultPlace v x) = pX12_at v := rfl
theorem q12_place_faultPlace (v : BX12) (x : Int32) : pX12_place (sX12_faultPlace v x) = pX12_place v := rfl
theorem q12_token_faultPlace (v : BX12) (x : Int32) : pX12_token (sX12_faultPlace v x) = pX12_token v := rfl
theorem q12_number_faultPlace (v : BX12) (x : Int32) : pX12_number (sX12_faultPlace v x) = pX12_number v := rfl
theorem q12_word_faultPlace (v : BX12) (x : Int32) : pX12_word (sX12_faultPlace v x) = pX12_word v := rfl
theorem q12_text0_faultPlace (v : BX12) (x : Int32) : pX12_text0 (sX12_faultPlace v x) = pX12_text0 v := rfl
theorem q12_clauses_faultPlace (v : BX12) (x : Int32) : pX12_clauses (sX12_faultPlace v x) = pX12_clauses v := rfl
theorem q12_written_faultPlace (v : BX12) (x : Int32) : pX12_written (sX12_faultPlace v x) = pX12_written v := rfl
theorem q12_came_faultPlace (v : BX12) (x : Int32) : pX12_came (sX12_faultPlace v x) = pX12_came v := rfl
theorem q12_letters_faultPlace (v : BX12) (x : Int32) : pX12_letters (sX12_faultPlace v x) = pX12_letters v := rfl
theorem q12_piled_faultPlace (v : BX12) (x : Int32) : pX12_piled (sX12_faultPlace v x) = pX12_piled v := rfl
theorem q12_opens_faultPlace (v : BX12) (x : Int32) : pX12_opens (sX12_faultPlace v x) = pX12_opens v := rfl
theorem q12_isWhole_faultPlace (v : BX12) (x : Int32) : pX12_isWhole (sX12_faultPlace v x) = pX12_isWhole v := rfl
theorem q12_bound_faultPlace (v : BX12) (x : Int32) : pX12_bound (sX12_faultPlace v x) = pX12_bound v := rfl
theorem q12_over_faultPlace (v : BX12) (x : Int32) : pX12_over (sX12_faultPlace v x) = pX12_over v := rfl
theorem q12_ticks_faultPlace (v : BX12) (x : Int32) : pX12_ticks (sX12_faultPlace v x) = pX12_ticks v := rfl
theorem q12_atX_faultPlace (v : BX12) (x : Int32) : pX12_atX (sX12_faultPlace v x) = pX12_atX v := rfl
theorem q12_atY_faultPlace (v : BX12) (x : Int32) : pX12_atY (sX12_faultPlace v x) = pX12_atY v := rfl
theorem q12_heading_faultPlace (v : BX12) (x : Int32) : pX12_heading (sX12_faultPlace v x) = pX12_heading v := rfl
theorem q12_hit_faultPlace (v : BX12) (x : Int32) : pX12_hit (sX12_faultPlace v x) = pX12_hit v := rfl
theorem q12_rested_faultPlace (v : BX12) (x : Int32) : pX12_rested (sX12_faultPlace v x) = pX12_rested v := rfl
theorem q12_now_faultPlace (v : BX12) (x : Int32) : pX12_now (sX12_faultPlace v x) = pX12_now v := rfl
theorem q12_turn_faultPlace (v : BX12) (x : Int32) : pX12_turn (sX12_faultPlace v x) = pX12_turn v := rfl
theorem q12_go_faultPlace (v : BX12) (x : Int32) : pX12_go (sX12_faultPlace v x) = pX12_go v := rfl
theorem q12_a_faultPlace (v : BX12) (x : Int32) : pX12_a (sX12_faultPlace v x) = pX12_a v := rfl
theorem q12_image_faultPlace (v : BX12) (x : Int32) : pX12_image (sX12_faultPlace v x) = pX12_image v := rfl
theorem q12_texts_faultPlace (v : BX12) (x : Int32) : pX12_texts (sX12_faultPlace v x) = pX12_texts v := rfl
theorem q12_board_faultPlace (v : BX12) (x : Int32) : pX12_board (sX12_faultPlace v x) = pX12_board v := rfl
theorem q12_taken_faultPlace (v : BX12) (x : Int32) : pX12_taken (sX12_faultPlace v x) = pX12_taken v := rfl
theorem q12_fars_faultPlace (v : BX12) (x : Int32) : pX12_fars (sX12_faultPlace v x) = pX12_fars v := rfl
theorem q12_before_faultPlace (v : BX12) (x : Int32) : pX12_before (sX12_faultPlace v x) = pX12_before v := rfl
theorem q12_tape_faultPlace (v : BX12) (x : Int32) : pX12_tape (sX12_faultPlace v x) = pX12_tape v := rfl
theorem q12_pile_faultPlace (v : BX12) (x : Int32) : pX12_pile (sX12_faultPlace v x) = pX12_pile v := rfl
theorem q12_rows_faultPlace (v : BX12) (x : Int32) : pX12_rows (sX12_faultPlace v x) = pX12_rows v := rfl
theorem q12_told_faultPlace (v : BX12) (x : Int32) : pX12_told (sX12_faultPlace v x) = pX12_told v := rfl
theorem q12_values_faultPlace (v : BX12) (x : Int32) : pX12_values (sX12_faultPlace v x) = pX12_values v := rfl
theorem q12_truth_faultPlace (v : BX12) (x : Int32) : pX12_truth (sX12_faultPlace v x) = pX12_truth v := rfl
theorem q12_keeps_faultPlace (v : BX12) (x : Int32) : pX12_keeps (sX12_faultPlace v x) = pX12_keeps v := rfl
theorem q12_w_at (v : BX12) (x : Int32) : pX12_w (sX12_at v x) = pX12_w v := rfl
theorem q12_h_at (v : BX12) (x : Int32) : pX12_h (sX12_at v x) = pX12_h v := rfl
theorem q12_taped_at (v : BX12) (x : Int32) : pX12_taped (sX12_at v x) = pX12_taped v := rfl
theorem q12_fault_at (v : BX12) (x : Int32) : pX12_fault (sX12_at v x) = pX12_fault v := rfl
theorem q12_faultPlace_at (v : BX12) (x : Int32) : pX12_faultPlace (sX12_at v x) = pX12_faultPlace v := rfl
theorem q12_at_at (v : BX12) (x : Int32) : pX12_at (sX12_at v x) = x := rfl
theorem q12_place_at (v : BX12) (x : Int32) : pX12_place (sX12_at v x) = pX12_place v := rfl
theorem q12_token_at (v : BX12) (x : Int32) : pX12_token (sX12_at v x) = pX12_token v := rfl
theorem q12_number_at (v : BX12) (x : Int32) : pX12_number (sX12_at v x) = pX12_number v := rfl
theorem q12_word_at (v : BX12) (x : Int32) : pX12_word (sX12_at v x) = pX12_word v := rfl
theorem q12_text0_at (v : BX12) (x : Int32) : pX12_text0 (sX12_at v x) = pX12_text0 v := rfl
theorem q12_clauses_at (v : BX12) (x : Int32) : pX12_clauses (sX12_at v x) = pX12_clauses v := rfl
theorem q12_written_at (v : BX12) (x : Int32) : pX12_written (sX12_at v x) = pX12_written v := rfl
theorem q12_came_at (v : BX12) (x : Int32) : pX12_came (sX12_at v x) = pX12_came v := rfl
theorem q12_letters_at (v : BX12) (x : Int32) : pX12_letters (sX12_at v x) = pX12_letters v := rfl
theorem q12_piled_at (v : BX12) (x : Int32) : pX12_piled (sX12_at v x) = pX12_piled v := rfl
theorem q12_opens_at (v : BX12) (x : Int32) : pX12_opens (sX12_at v x) = pX12_opens v := rfl
theorem q12_isWhole_at (v : BX12) (x : Int32) : pX12_isWhole (sX12_at v x) = pX12_isWhole v := rfl
theorem q12_bound_at (v : BX12) (x : Int32) : pX12_bound (sX12_at v x) = pX12_bound v := rfl
theorem q12_over_at (v : BX12) (x : Int32) : pX12_over (sX12_at v x) = pX12_over v := rfl
theorem q12_ticks_at (v : BX12) (x : Int32) : pX12_ticks (sX12_at v x) = pX12_ticks v := rfl
theorem q12_atX_at (v : BX12) (x : Int32) : pX12_atX (sX12_at v x) = pX12_atX v := rfl
theorem q12_atY_at (v : BX12) (x : Int32) : pX12_atY (sX12_at v x) = pX12_atY v := rfl
theorem q12_heading_at (v : BX12) (x : Int32) : pX12_heading (sX12_at v x) = pX12_heading v := rfl
theorem q12_hit_at (v : BX12) (x : Int32) : pX12_hit (sX12_at v x) = pX12_hit v := rfl
theorem q12_rested_at (v : BX12) (x : Int32) : pX12_rested (sX12_at v x) = pX12_rested v := rfl
theorem q12_now_at (v : BX12) (x : Int32) : pX12_now (sX12_at v x) = pX12_now v := rfl
theorem q12_turn_at (v : BX12) (x : Int32) : pX12_turn (sX12_at v x) = pX12_turn v := rfl
theorem q12_go_at (v : BX12) (x : Int32) : pX12_go (sX12_at v x) = pX12_go v := rfl
theorem q12_a_at (v : BX12) (x : Int32) : pX12_a (sX12_at v x) = pX12_a v := rfl
theorem q12_image_at (v : BX12) (x : Int32) : pX12_image (sX12_at v x) = pX12_image v := rfl
theorem q12_texts_at (v : BX12) (x : Int32) : pX12_texts (sX12_at v x) = pX12_texts v := rfl
theorem q12_board_at (v : BX12) (x : Int32) : pX12_board (sX12_at v x) = pX12_board v := rfl
theorem q12_taken_at (v : BX12) (x : Int32) : pX12_taken (sX12_at v x) = pX12_taken v := rfl
theorem q12_fars_at (v : BX12) (x : Int32) : pX12_fars (sX12_at v x) = pX12_fars v := rfl
theorem q12_before_at (v : BX12) (x : Int32) : pX12_before (sX12_at v x) = pX12_before v := rfl
theorem q12_tape_at (v : BX12) (x : Int32) : pX12_tape (sX12_at v x) = pX12_tape v := rfl
theorem q12_pile_at (v : BX12) (x : Int32) : pX12_pile (sX12_at v x) = pX12_pile v := rfl
theorem q12_rows_at (v : BX12) (x : Int32) : pX12_rows (sX12_at v x) = pX12_rows v := rfl
theorem q12_told_at (v : BX12) (x : Int32) : pX12_told (sX12_at v x) = pX12_told v := rfl
theorem q12_values_at (v : BX12) (x : Int32) : pX12_values (sX12_at v x) = pX12_values v := rfl
theorem q12_truth_at (v : BX12) (x : Int32) : pX12_truth (sX12_at v x) = pX12_truth v := rfl
theorem q12_keeps_at (v : BX12) (x : Int32) : pX12_keeps (sX12_at v x) = pX12_keeps v := rfl
theorem q12_w_place (v : BX12) (x : Int32) : pX12_w (sX12_place v x) = pX12_w v := rfl
theorem q12_h_place (v : BX12) (x : Int32) : pX12_h (sX12_place v x) = pX12_h v := rfl
theorem q12_taped_place (v : BX12) (x : Int32) : pX12_taped (sX12_place v x) = pX12_taped v := rfl
theorem q12_fault_place (v : BX12) (x : Int32) : pX12_fault (sX12_place v x) = pX12_fault v := rfl
theorem q12_faultPlace_place (v : BX12) (x : Int32) : pX12_faultPlace (sX12_place v x) = pX12_faultPlace v := rfl
theorem q12_at_place (v : BX12) (x : Int32) : pX12_at (sX12_place v x) = pX12_at v := rfl
theorem q12_place_place (v : BX12) (x : Int32) : pX12_place (sX12_place v x) = x := rfl
theorem q12_token_place (v : BX12) (x : Int32) : pX12_token (sX12_place v x) = pX12_token v := rfl
theorem q12_number_place (v : BX12) (x : Int32) : pX12_number (sX12_place v x) = pX12_number v := rfl
theorem q12_word_place (v : BX12) (x : Int32) : pX12_word (sX12_place v x) = pX12_word v := rfl
theorem q12_text0_place (v : BX12) (x : Int32) : pX12_text0 (sX12_place v x) = pX12_text0 v := rfl
theorem q12_clauses_place (v : BX12) (x : Int32) : pX12_clauses (sX12_place v x) = pX12_clauses v := rfl
theorem q12_written_place (v : BX12) (x : Int32) : pX12_written (sX12_place v x) = pX12_written v := rfl
theorem q12_came_place (v : BX12) (x : Int32) : pX12_came (sX12_place v x) = pX12_came v := rfl
theorem q12_letters_place (v : BX12) (x : Int32) : pX12_letters (sX12_place v x) = pX12_letters v := rfl
theorem q12_piled_place (v : BX12) (x : Int32) : pX12_piled (sX12_place v x) = pX12_piled v := rfl
theorem q12_opens_place (v : BX12) (x : Int32) : pX12_opens (sX12_place v x) = pX12_opens v := rfl
theorem q12_isWhole_place (v : BX12) (x : Int32) : pX12_isWhole (sX12_place v x) = pX12_isWhole v := rfl
theorem q12_bound_place (v : BX12) (x : Int32) : pX12_bound (sX12_place v x) = pX12_bound v := rfl
theorem q12_over_place (v : BX12) (x : Int32) : pX12_over (sX12_place v x) = pX12_over v := rfl
theorem q12_ticks_place (v : BX12) (x : Int32) : pX12_ticks (sX12_place v x) = pX12_ticks v := rfl
theorem q12_atX_place (v : BX12) (x : Int32) : pX12_atX (sX12_place v x) = pX12_atX v := rfl
theorem q12_atY_place (v : BX12) (x : Int32) : pX12_atY (sX12_place v x) = pX12_atY v := rfl
theorem q12_heading_place (v : BX12) (x : Int32) : pX12_heading (sX12_place v x) = pX12_heading v := rfl
theorem q12_hit_place (v : BX12) (x : Int32) : pX12_hit (sX12_place v x) = pX12_hit v := rfl
theorem q12_rested_place (v : BX12) (x : Int32) : pX12_rested (sX12_place v x) = pX12_rested v := rfl
theorem q12_now_place (v : BX12) (x : Int32) : pX12_now (sX12_place v x) = pX12_now v := rfl
theorem q12_turn_place (v : BX12) (x : Int32) : pX12_turn (sX12_place v x) = pX12_turn v := rfl
theorem q12_go_place (v : BX12) (x : Int32) : pX12_go (sX12_place v x) = pX12_go v := rfl
theorem q12_a_place (v : BX12) (x : Int32) : pX12_a (sX12_place v x) = pX12_a v := rfl
theorem q12_image_place (v : BX12) (x : Int32) : pX12_image (sX12_place v x) = pX12_image v := rfl
theorem q12_texts_place (v : BX12) (x : Int32) : pX12_texts (sX12_place v x) = pX12_texts v := rfl
theorem q12_board_place (v : BX12) (x : Int32) : pX12_board (sX12_place v x) = pX12_board v := rfl
theorem q12_taken_place (v : BX12) (x : Int32) : pX12_taken (sX12_place v x) = pX12_taken v := rfl
theorem q12_fars_place (v : BX12) (x : Int32) : pX12_fars (sX12_place v x) = pX12_fars v := rfl
theorem q12_before_place (v : BX12) (x : Int32) : pX12_before (sX12_place v x) = pX12_before v := rfl
theorem q12_tape_place (v : BX12) (x : Int32) : pX12_tape (sX12_place v x) = pX12_tape v := rfl
theorem q12_pile_place (v : BX12) (x : Int32) : pX12_pile (sX12_place v x) = pX12_pile v := rfl
theorem q12_rows_place (v : BX12) (x : Int32) : pX12_rows (sX12_place v x) = pX12_rows v := rfl
theorem q12_told_place (v : BX12) (x : Int32) : pX12_told (sX12_place v x) = pX12_told v := rfl
theorem q12_values_place (v : BX12) (x : Int32) : pX12_values (sX12_place v x) = pX12_values v := rfl
theorem q12_truth_place (v : BX12) (x : Int32) : pX12_truth (sX12_place v x) = pX12_truth v := rfl
theorem q12_keeps_place (v : BX12) (x : Int32) : pX12_keeps (sX12_place v x) = pX12_keeps v := rfl
theorem q12_w_token (v : BX12) (x : Int32) : pX12_w (sX12_token v x) = pX12_w v := rfl
theorem q12_h_token (v : BX12) (x : Int32) : pX12_h (sX12_token v x) = pX12_h v := rfl
theorem q12_taped_token (v : BX12) (x : Int32) : pX12_taped (sX12_token v x) = pX12_taped v := rfl
theorem q12_fault_token (v : BX12) (x : Int32) : pX12_fault (sX12_token v x) = pX12_fault v := rfl
theorem q12_faultPlace_token (v : BX12) (x : Int32) : pX12_faultPlace (sX12_token v x) = pX12_faultPlace v := rfl
theorem q12_at_token (v : BX12) (x : Int32) : pX12_at (sX12_token v x) = pX12_at v := rfl
theorem q12_place_token (v : BX12) (x : Int32) : pX12_place (sX12_token v x) = pX12_place v := rfl
theorem q12_token_token (v : BX12) (x : Int32) : pX12_token (sX12_token v x) = x := rfl
theorem q12_number_token (v : BX12) (x : Int32) : pX12_number (sX12_token v x) = pX12_number v := rfl
theorem q12_word_token (v : BX12) (x : Int32) : pX12_word (sX12_token v x) = pX12_word v := rfl
theorem q12_text0_token (v : BX12) (x : Int32) : pX12_text0 (sX12_token v x) = pX12_text0 v := rfl
theorem q12_clauses_token (v : BX12) (x : Int32) : pX12_clauses (sX12_token v x) = pX12_clauses v := rfl
theorem q12_written_token (v : BX12) (x : Int32) : pX12_written (sX12_token v x) = pX12_written v := rfl
theorem q12_came_token (v : BX12) (x : Int32) : pX12_came (sX12_token v x) = pX12_came v := rfl
theorem q12_letters_token (v : BX12) (x : Int32) : pX12_letters (sX12_token v x) = pX12_letters v := rfl
theorem q12_piled_token (v : BX12) (x : Int32) : pX12_piled (sX12_token v x) = pX12_piled v := rfl
theorem q12_opens_token (v : BX12) (x : Int32) : pX12_opens (sX12_token v x) = pX12_opens v := rfl
theorem q12_isWhole_token (v : BX12) (x : Int32) : pX12_isWhole (sX12_token v x) = pX12_isWhole v := rfl
theorem q12_bound_token (v : BX12) (x : Int32) : pX12_bound (sX12_token v x) = pX12_bound v := rfl
theorem q12_over_token (v : BX12) (x : Int32) : pX12_over (sX12_token v x) = pX12_over v := rfl
theorem q12_ticks_token (v : BX12) (x : Int32) : pX12_ticks (sX12_token v x) = pX12_ticks v := rfl
theorem q12_atX_token (v : BX12) (x : Int32) : pX12_atX (sX12_token v x) = pX12_atX v := rfl
theorem q12_atY_token (v : BX12) (x : Int32) : pX12_atY (sX12_token v x) = pX12_atY v := rfl
theorem q12_heading_token (v : BX12) (x : Int32) : pX12_heading (sX12_token v x) = pX12_heading v := rfl
theorem q12_hit_token (v : BX12) (x : Int32) : pX12_hit (sX12_token v x) = pX12_hit v := rfl
theorem q12_rested_token (v : BX12) (x : Int32) : pX12_rested (sX12_token v x) = pX12_rested v := rfl
theorem q12_now_token (v : BX12) (x : Int32) : pX12_now (sX12_token v x) = pX12_now v := rfl
theorem q12_turn_token (v : BX12) (x : Int32) : pX12_turn (sX12_token v x) = pX12_turn v := rfl
theorem q12_go_token (v : BX12) (x : Int32) : pX12_go (sX12_token v x) = pX12_go v := rfl
theorem q12_a_token (v : BX12) (x : Int32) : pX12_a (sX12_token v x) = pX12_a v := rfl
theorem q12_image_token (v : BX12) (x : Int32) : pX12_image (sX12_token v x) = pX12_image v := rfl
theorem q12_texts_token (v : BX12) (x : Int32) : pX12_texts (sX12_token v x) = pX12_texts v := rfl
theorem q12_board_token (v : BX12) (x : Int32) : pX12_board (sX12_token v x) = pX12_board v := rfl
theorem q12_taken_token (v : BX12) (x : Int32) : pX12_taken (sX12_token v x) = pX12_taken v := rfl
theorem q12_fars_token (v : BX12) (x : Int32) : pX12_fars (sX12_token v x) = pX12_fars v := rfl
theorem q12_before_token (v : BX12) (x : Int32) : pX12_before (sX12_token v x) = pX12_before v := rfl
theorem q12_tape_token (v : BX12) (x : Int32) : pX12_tape (sX12_token v x) = pX12_tape v := rfl
theorem q12_pile_token (v : BX12) (x : Int32) : pX12_pile (sX12_token v x) = pX12_pile v := rfl
theorem q12_rows_token (v : BX12) (x : Int32) : pX12_rows (sX12_token v x) = pX12_rows v := rfl
theorem q12_told_token (v : BX12) (x : Int32) : pX12_told (sX12_token v x) = pX12_told v := rfl
theorem q12_values_token (v : BX12) (x : Int32) : pX12_values (sX12_token v x) = pX12_values v := rfl
theorem q12_truth_token (v : BX12) (x : Int32) : pX12_truth (sX12_token v x) = pX12_truth v := rfl
theorem q12_keeps_token (v : BX12) (x : Int32) : pX12_keeps (sX12_token v x) = pX12_keeps v := rfl
theorem q12_w_number (v : BX12) (x : Int32) : pX12_w (sX12_number v x) = pX12_w v := rfl
theorem q12_h_number (v : BX12) (x : Int32) : pX12_h (sX12_number v x) = pX12_h v := rfl
theorem q12_taped_number (v : BX12) (x : Int32) : pX12_taped (sX12_number v x) = pX12_taped v := rfl
theorem q12_fault_number (v : BX12) (x : Int32) : pX12_fault (sX12_number v x) = pX12_fault v := rfl
theorem q12_faultPlace_number (v : BX12) (x : Int32) : pX12_faultPlace (sX12_number v x) = pX12_faultPlace v := rfl
theorem q12_at_number (v : BX12) (x : Int32) : pX12_at (sX12_number v x) = pX12_at v := rfl
theorem q12_place_number (v : BX12) (x : Int32) : pX12_place (sX12_number v x) = pX12_place v := rfl
theorem q12_token_number (v : BX12) (x : Int32) : pX12_token (sX12_number v x) = pX12_token v := rfl
theorem q12_number_number (v : BX12) (x : Int32) : pX12_number (sX12_number v x) = x := rfl
theorem q12_word_number (v : BX12) (x : Int32) : pX12_word (sX12_number v x) = pX12_word v := rfl
theorem q12_text0_number (v : BX12) (x : Int32) : pX12_text0 (sX12_number v x) = pX12_text0 v := rfl
theorem q12_clauses_number (v : BX12) (x : Int32) : pX12_clauses (sX12_number v x) = pX12_clauses v := rfl
theorem q12_written_number (v : BX12) (x : Int32) : pX12_written (sX12_number v x) = pX12_written v := rfl
theorem q12_came_number (v : BX12) (x : Int32) : pX12_came (sX12_number v x) = pX12_came v := rfl
theorem q12_letters_number (v : BX12) (x : Int32) : pX12_letters (sX12_number v x) = pX12_letters v := rfl
theorem q12_piled_number (v : BX12) (x : Int32) : pX12_piled (sX12_number v x) = pX12_piled v := rfl
theorem q12_opens_number (v : BX12) (x : Int32) : pX12_opens (sX12_number v x) = pX12_opens v := rfl
theorem q12_isWhole_number (v : BX12) (x : Int32) : pX12_isWhole (sX12_number v x) = pX12_isWhole v := rfl
theorem q12_bound_number (v : BX12) (x : Int32) : pX12_bound (sX12_number v x) = pX12_bound v := rfl
theorem q12_over_number (v : BX12) (x : Int32) : pX12_over (sX12_number v x) = pX12_over v := rfl
theorem q12_ticks_number (v : BX12) (x : Int32) : pX12_ticks (sX12_number v x) = pX12_ticks v := rfl
theorem q12_atX_number (v : BX12) (x : Int32) : pX12_atX (sX12_number v x) = pX12_atX v := rfl
theorem q12_atY_number (v : BX12) (x : Int32) : pX12_atY (sX12_number v x) = pX12_atY v := rfl
theorem q12_heading_number (v : BX12) (x : Int32) : pX12_heading (sX12_number v x) = pX12_heading v := rfl
theorem q12_hit_number (v : BX12) (x : Int32) : pX12_hit (sX12_number v x) = pX12_hit v := rfl
theorem q12_rested_number (v : BX12) (x : Int32) : pX12_rested (sX12_number v x) = pX12_rested v := rfl
theorem q12_now_number (v : BX12) (x : Int32) : pX12_now (sX12_number v x) = pX12_now v := rfl
theorem q12_turn_number (v : BX12) (x : Int32) : pX12_turn (sX12_number v x) = pX12_turn v := rfl
theorem q12_go_number (v : BX12) (x : Int32) : pX12_go (sX12_number v x) = pX12_go v := rfl
theorem q12_a_number (v : BX12) (x : Int32) : pX12_a (sX12_number v x) = pX12_a v := rfl
theorem q12_image_number (v : BX12) (x : Int32) : pX12_image (sX12_number v x) = pX12_image v := rfl
theorem q12_texts_number (v : BX12) (x : Int32) : pX12_texts (sX12_number v x) = pX12_texts v := rfl
theorem q12_board_number (v : BX12) (x : Int32) : pX12_board (sX12_number v x) = pX12_board v := rfl
theorem q12_taken_number (v : BX12) (x : Int32) : pX12_taken (sX12_number v x) = pX12_taken v := rfl
theorem q12_fars_number (v : BX12) (x : Int32) : pX12_fars (sX12_number v x) = pX12_fars v := rfl
theorem q12_before_number (v : BX12) (x : Int32) : pX12_before (sX12_number v x) = pX12_before v := rfl
theorem q12_tape_number (v : BX12) (x : Int32) : pX12_tape (sX12_number v x) = pX12_tape v := rfl
theorem q12_pile_number (v : BX12) (x : Int32) : pX12_pile (sX12_number v x) = pX12_pile v := rfl
theorem q12_rows_number (v : BX12) (x : Int32) : pX12_rows (sX12_number v x) = pX12_rows v := rfl
theorem q12_told_number (v : BX12) (x : Int32) : pX12_told (sX12_number v x) = pX12_told v := rfl
theorem q12_values_number (v : BX12) (x : Int32) : pX12_values (sX12_number v x) = pX12_values v := rfl
theorem q12_truth_number (v : BX12) (x : Int32) : pX12_truth (sX12_number v x) = pX12_truth v := rfl
theorem q12_keeps_number (v : BX12) (x : Int32) : pX12_keeps (sX12_number v x) = pX12_keeps v := rfl
theorem q12_w_word (v : BX12) (x : Int64) : pX12_w (sX12_word v x) = pX12_w v := rfl
theorem q12_h_word (v : BX12) (x : Int64) : pX12_h (sX12_word v x) = pX12_h v := rfl
theorem q12_taped_word (v : BX12) (x : Int64) : pX12_taped (sX12_word v x) = pX12_taped v := rfl
theorem q12_fault_word (v : BX12) (x : Int64) : pX12_fault (sX12_word v x) = pX12_fault v := rfl
theorem q12_faultPlace_word (v : BX12) (x : Int64) : pX12_faultPlace (sX12_word v x) = pX12_faultPlace v := rfl
theorem q12_at_word (v : BX12) (x : Int64) : pX12_at (sX12_word v x) = pX12_at v := rfl
theorem q12_place_word (v : BX12) (x : Int64) : pX12_place (sX12_word v x) = pX12_place v := rfl
theorem q12_token_word (v : BX12) (x : Int64) : pX12_token (sX12_word v x) = pX12_token v := rfl
theorem q12_number_word (v : BX12) (x : Int64) : pX12_number (sX12_word v x) = pX12_number v := rfl
theorem q12_word_word (v : BX12) (x : Int64) : pX12_word (sX12_word v x) = x := rfl
theorem q12_text0_word (v : BX12) (x : Int64) : pX12_text0 (sX12_word v x) = pX12_text0 v := rfl
theorem q12_clauses_word (v : BX12) (x : Int64) : pX12_clauses (sX12_word v x) = pX12_clauses v := rfl
theorem q12_written_word (v : BX12) (x : Int64) : pX12_written (sX12_word v x) = pX12_written v := rfl
theorem q12_came_word (v : BX12) (x : Int64) : pX12_came (sX12_word v x) = pX12_came v := rfl
theorem q12_letters_word (v : BX12) (x : Int64) : pX12_letters (sX12_word v x) = pX12_letters v := rfl
theorem q12_piled_word (v : BX12) (x : Int64) : pX12_piled (sX12_word v x) = pX12_piled v := rfl
theorem q12_opens_word (v : BX12) (x : Int64) : pX12_opens (sX12_word v x) = pX12_opens v := rfl
theorem q12_isWhole_word (v : BX12) (x : Int64) : pX12_isWhole (sX12_word v x) = pX12_isWhole v := rfl
theorem q12_bound_word (v : BX12) (x : Int64) : pX12_bound (sX12_word v x) = pX12_bound v := rfl
theorem q12_over_word (v : BX12) (x : Int64) : pX12_over (sX12_word v x) = pX12_over v := rfl
theorem q12_ticks_word (v : BX12) (x : Int64) : pX12_ticks (sX12_word v x) = pX12_ticks v := rfl
theorem q12_atX_word (v : BX12) (x : Int64) : pX12_atX (sX12_word v x) = pX12_atX v := rfl
theorem q12_atY_word (v : BX12) (x : Int64) : pX12_atY (sX12_word v x) = pX12_atY v := rfl
theorem q12_heading_word (v : BX12) (x : Int64) : pX12_heading (sX12_word v x) = pX12_heading v := rfl
theorem q12_hit_word (v : BX12) (x : Int64) : pX12_hit (sX12_word v x) = pX12_hit v := rfl
theorem q12_rested_word (v : BX12) (x : Int64) : pX12_rested (sX12_word v x) = pX12_rested v := rfl
theorem q12_now_word (v : BX12) (x : Int64) : pX12_now (sX12_word v x) = pX12_now v := rfl
theorem q12_turn_word (v : BX12) (x : Int64) : pX12_turn (sX12_word v x) = pX12_turn v := rfl
theorem q12_go_word (v : BX12) (x : Int64) : pX12_go (sX12_word v x) = pX12_go v := rfl
theorem q12_a_word (v : BX12) (x : Int64) : pX12_a (sX12_word v x) = pX12_a v := rfl
theorem q12_image_word (v : BX12) (x : Int64) : pX12_image (sX12_word v x) = pX12_image v := rfl
theorem q12_texts_word (v : BX12) (x : Int64) : pX12_texts (sX12_word v x) = pX12_texts v := rfl
theorem q12_board_word (v : BX12) (x : Int64) : pX12_board (sX12_word v x) = pX12_board v := rfl
theorem q12_taken_word (v : BX12) (x : Int64) : pX12_taken (sX12_word v x) = pX12_taken v := rfl
theorem q12_fars_word (v : BX12) (x : Int64) : pX12_fars (sX12_word v x) = pX12_fars v := rfl
theorem q12_before_word (v : BX12) (x : Int64) : pX12_before (sX12_word v x) = pX12_before v := rfl
theorem q12_tape_word (v : BX12) (x : Int64) : pX12_tape (sX12_word v x) = pX12_tape v := rfl
theorem q12_pile_word (v : BX12) (x : Int64) : pX12_pile (sX12_word v x) = pX12_pile v := rfl
theorem q12_rows_word (v : BX12) (x : Int64) : pX12_rows (sX12_word v x) = pX12_rows v := rfl
theorem q12_told_word (v : BX12) (x : Int64) : pX12_told (sX12_word v x) = pX12_told v := rfl
theorem q12_values_word (v : BX12) (x : Int64) : pX12_values (sX12_word v x) = pX12_values v := rfl
theorem q12_truth_word (v : BX12) (x : Int64) : pX12_truth (sX12_word v x) = pX12_truth v := rfl
theorem q12_keeps_word (v : BX12) (x : Int64) : pX12_keeps (sX12_word v x) = pX12_keeps v := rfl
theorem q12_w_text0 (v : BX12) (x : Int32) : pX12_w (sX12_text0 v x) = pX12_w v := rfl
theorem q12_h_text0 (v : BX12) (x : Int32) : pX12_h (sX12_text0 v x) = pX12_h v := rfl
theorem q12_taped_text0 (v : BX12) (x : Int32) : pX12_taped (sX12_text0 v x) = pX12_taped v := rfl
theorem q12_fault_text0 (v : BX12) (x : Int32) : pX12_fault (sX12_text0 v x) = pX12_fault v := rfl
theorem q12_faultPlace_text0 (v : BX12) (x : Int32) : pX12_faultPlace (sX12_text0 v x) = pX12_faultPlace v := rfl
theorem q12_at_text0 (v : BX12) (x : Int32) : pX12_at (sX12_text0 v x) = pX12_at v := rfl
theorem q12_place_text0 (v : BX12) (x : Int32) : pX12_place (sX12_text0 v x) = pX12_place v := rfl
theorem q12_token_text0 (v : BX12) (x : Int32) : pX12_token (sX12_text0 v x) = pX12_token v := rfl
theorem q12_number_text0 (v : BX12) (x : Int32) : pX12_number (sX12_text0 v x) = pX12_number v := rfl
theorem q12_word_text0 (v : BX12) (x : Int32) : pX12_word (sX12_text0 v x) = pX12_word v := rfl
theorem q12_text0_text0 (v : BX12) (x : Int32) : pX12_text0 (sX12_text0 v x) = x := rfl
theorem q12_clauses_text0 (v : BX12) (x : Int32) : pX12_clauses (sX12_text0 v x) = pX12_clauses v := rfl
theorem q12_written_text0 (v : BX12) (x : Int32) : pX12_written (sX12_text0 v x) = pX12_written v := rfl
theorem q12_came_text0 (v : BX12) (x : Int32) : pX12_came (sX12_text0 v x) = pX12_came v := rfl
theorem q12_letters_text0 (v : BX12) (x : Int32) : pX12_letters (sX12_text0 v x) = pX12_letters v := rfl
theorem q12_piled_text0 (v : BX12) (x : Int32) : pX12_piled (sX12_text0 v x) = pX12_piled v := rfl
theorem q12_opens_text0 (v : BX12) (x : Int32) : pX12_opens (sX12_text0 v x) = pX12_opens v := rfl
theorem q12_isWhole_text0 (v : BX12) (x : Int32) : pX12_isWhole (sX12_text0 v x) = pX12_isWhole v := rfl
theorem q12_bound_text0 (v : BX12) (x : Int32) : pX12_bound (sX12_text0 v x) = pX12_bound v := rfl
theorem q12_over_text0 (v : BX12) (x : Int32) : pX12_over (sX12_text0 v x) = pX12_over v := rfl
theorem q12_ticks_text0 (v : BX12) (x : Int32) : pX12_ticks (sX12_text0 v x) = pX12_ticks v := rfl
theorem q12_atX_text0 (v : BX12) (x : Int32) : pX12_atX (sX12_text0 v x) = pX12_atX v := rfl
theorem q12_atY_text0 (v : BX12) (x : Int32) : pX12_atY (sX12_text0 v x) = pX12_atY v := rfl
theorem q12_heading_text0 (v : BX12) (x : Int32) : pX12_heading (sX12_text0 v x) = pX12_heading v := rfl
theorem q12_hit_text0 (v : BX12) (x : Int32) : pX12_hit (sX12_text0 v x) = pX12_hit v := rfl
theorem q12_rested_text0 (v : BX12) (x : Int32) : pX12_rested (sX12_text0 v x) = pX12_rested v := rfl
theorem q12_now_text0 (v : BX12) (x : Int32) : pX12_now (sX12_text0 v x) = pX12_now v := rfl
theorem q12_turn_text0 (v : BX12) (x : Int32) : pX12_turn (sX12_text0 v x) = pX12_turn v := rfl
theorem q12_go_text0 (v : BX12) (x : Int32) : pX12_go (sX12_text0 v x) = pX12_go v := rfl
theorem q12_a_text0 (v : BX12) (x : Int32) : pX12_a (sX12_text0 v x) = pX12_a v := rfl
theorem q12_image_text0 (v : BX12) (x : Int32) : pX12_image (sX12_text0 v x) = pX12_image v := rfl
theorem q12_texts_text0 (v : BX12) (x : Int32) : pX12_texts (sX12_text0 v x) = pX12_texts v := rfl
theorem q12_board_text0 (v : BX12) (x : Int32) : pX12_board (sX12_text0 v x) = pX12_board v := rfl
theorem q12_taken_text0 (v : BX12) (x : Int32) : pX12_taken (sX12_text0 v x) = pX12_taken v := rfl
theorem q12_fars_text0 (v : BX12) (x : Int32) : pX12_fars (sX12_text0 v x) = pX12_fars v := rfl
theorem q12_before_text0 (v : BX12) (x : Int32) : pX12_before (sX12_text0 v x) = pX12_before v := rfl
theorem q12_tape_text0 (v : BX12) (x : Int32) : pX12_tape (sX12_text0 v x) = pX12_tape v := rfl
theorem q12_pile_text0 (v : BX12) (x : Int32) : pX12_pile (sX12_text0 v x) = pX12_pile v := rfl
theorem q12_rows_text0 (v : BX12) (x : Int32) : pX12_rows (sX12_text0 v x) = pX12_rows v := rfl
theorem q12_told_text0 (v : BX12) (x : Int32) : pX12_told (sX12_text0 v x) = pX12_told v := rfl
theorem q12_values_text0 (v : BX12) (x : Int32) : pX12_values (sX12_text0 v x) = pX12_values v := rfl
theorem q12_truth_text0 (v : BX12) (x : Int32) : pX12_truth (sX12_text0 v x) = pX12_truth v := rfl
theorem q12_keeps_text0 (v : BX12) (x : Int32) : pX12_keeps (sX12_text0 v x) = pX12_keeps v := rfl
theorem q12_w_clauses (v : BX12) (x : Int32) : pX12_w (sX12_clauses v x) = pX12_w v := rfl
theorem q12_h_clauses (v : BX12) (x : Int32) : pX12_h (sX12_clauses v x) = pX12_h v := rfl
theorem q12_taped_clauses (v : BX12) (x : Int32) : pX12_taped (sX12_clauses v x) = pX12_taped v := rfl
theorem q12_fault_clauses (v : BX12) (x : Int32) : pX12_fault (sX12_clauses v x) = pX12_fault v := rfl
theorem q12_faultPlace_clauses (v : BX12) (x : Int32) : pX12_faultPlace (sX12_clauses v x) = pX12_faultPlace v := rfl
theorem q12_at_clauses (v : BX12) (x : Int32) : pX12_at (sX12_clauses v x) = pX12_at v := rfl
theorem q12_place_clauses (v : BX12) (x : Int32) : pX12_place (sX12_clauses v x) = pX12_place v := rfl
theorem q12_token_clauses (v : BX12) (x : Int32) : pX12_token (sX12_clauses v x) = pX12_token v := rfl
theorem q12_number_clauses (v : BX12) (x : Int32) : pX12_number (sX12_clauses v x) = pX12_number v := rfl
theorem q12_word_clauses (v : BX12) (x : Int32) : pX12_word (sX12_clauses v x) = pX12_word v := rfl
theorem q12_text0_clauses (v : BX12) (x : Int32) : pX12_text0 (sX12_clauses v x) = pX12_text0 v := rfl
theorem q12_clauses_clauses (v : BX12) (x : Int32) : pX12_clauses (sX12_clauses v x) = x := rfl
theorem q12_written_clauses (v : BX12) (x : Int32) : pX12_written (sX12_clauses v x) = pX12_written v := rfl
theorem q12_came_clauses (v : BX12) (x : Int32) : pX12_came (sX12_clauses v x) = pX12_came v := rfl
theorem q12_letters_clauses (v : BX12) (x : Int32) : pX12_letters (sX12_clauses v x) = pX12_letters v := rfl
theorem q12_piled_clauses (v : BX12) (x : Int32) : pX12_piled (sX12_clauses v x) = pX12_piled v := rfl
theorem q12_opens_clauses (v : BX12) (x : Int32) : pX12_opens (sX12_clauses v x) = pX12_opens v := rfl
theorem q12_isWhole_clauses (v : BX12) (x : Int32) : pX12_isWhole (sX12_clauses v x) = pX12_isWhole v := rfl
theorem q12_bound_clauses (v : BX12) (x : Int32) : pX12_bound (sX12_clauses v x) = pX12_bound v := rfl
theorem q12_over_clauses (v : BX12) (x : Int32) : pX12_over (sX12_clauses v x) = pX12_over v := rfl
theorem q12_ticks_clauses (v : BX12) (x : Int32) : pX12_ticks (sX12_clauses v x) = pX12_ticks v := rfl
theorem q12_atX_clauses (v : BX12) (x : Int32) : pX12_atX (sX12_clauses v x) = pX12_atX v := rfl
theorem q12_atY_clauses (v : BX12) (x : Int32) : pX12_atY (sX12_clauses v x) = pX12_atY v := rfl
theorem q12_heading_clauses (v : BX12) (x : Int32) : pX12_heading (sX12_clauses v x) = pX12_heading v := rfl
theorem q12_hit_clauses (v : BX12) (x : Int32) : pX12_hit (sX12_clauses v x) = pX12_hit v := rfl
theorem q12_rested_clauses (v : BX12) (x : Int32) : pX12_rested (sX12_clauses v x) = pX12_rested v := rfl
theorem q12_now_clauses (v : BX12) (x : Int32) : pX12_now (sX12_clauses v x) = pX12_now v := rfl
theorem q12_turn_clauses (v : BX12) (x : Int32) : pX12_turn (sX12_clauses v x) = pX12_turn v := rfl
theorem q12_go_clauses (v : BX12) (x : Int32) : pX12_go (sX12_clauses v x) = pX12_go v := rfl
theorem q12_a_clauses (v : BX12) (x : Int32) : pX12_a (sX12_clauses v x) = pX12_a v := rfl
theorem q12_image_clauses (v : BX12) (x : Int32) : pX12_image (sX12_clauses v x) = pX12_image v := rfl
theorem q12_texts_clauses (v : BX12) (x : Int32) : pX12_texts (sX12_clauses v x) = pX12_texts v := rfl
theorem q12_board_clauses (v : BX12) (x : Int32) : pX12_board (sX12_clauses v x) = pX12_board v := rfl
theorem q12_taken_clauses (v : BX12) (x : Int32) : pX12_taken (sX12_clauses v x) = pX12_taken v := rfl
theorem q12_fars_clauses (v : BX12) (x : Int32) : pX12_fars (sX12_clauses v x) = pX12_fars v := rfl
theorem q12_before_clauses (v : BX12) (x : Int32) : pX12_before (sX12_clauses v x) = pX12_before v := rfl
theorem q12_tape_clauses (v : BX12) (x : Int32) : pX12_tape (sX12_clauses v x) = pX12_tape v := rfl
theorem q12_pile_clauses (v : BX12) (x : Int32) : pX12_pile (sX12_clauses v x) = pX12_pile v := rfl
theorem q12_rows_clauses (v : BX12) (x : Int32) : pX12_rows (sX12_clauses v x) = pX12_rows v := rfl
theorem q12_told_clauses (v : BX12) (x : Int32) : pX12_told (sX12_clauses v x) = pX12_told v := rfl
theorem q12_values_clauses (v : BX12) (x : Int32) : pX12_values (sX12_clauses v x) = pX12_values v := rfl
theorem q12_truth_clauses (v : BX12) (x : Int32) : pX12_truth (sX12_clauses v x) = pX12_truth v := rfl
theorem q12_keeps_clauses (v : BX12) (x : Int32) : pX12_keeps (sX12_clauses v x) = pX12_keeps v := rfl
theorem q12_w_written (v : BX12) (x : Int32) : pX12_w (sX12_written v x) = pX12_w v := rfl
theorem q12_h_written (v : BX12) (x : Int32) : pX12_h (sX12_written v x) = pX12_h v := rfl
theorem q12_taped_written (v : BX12) (x : Int32) : pX12_taped (sX12_written v x) = pX12_taped v := rfl
theorem q12_fault_written (v : BX12) (x : Int32) : pX12_fault (sX12_written v x) = pX12_fault v := rfl
theorem q12_faultPlace_written (v : BX12) (x : Int32) : pX12_faultPlace (sX12_written v x) = pX12_faultPlace v := rfl
theorem q12_at_written (v : BX12) (x : Int32) : pX12_at (sX12_written v x) = pX12_at v := rfl
theorem q12_place_written (v : BX12) (x : Int32) : pX12_place (sX12_written v x) = pX12_place v := rfl
theorem q12_token_written (v : BX12) (x : Int32) : pX12_token (sX12_written v x) = pX12_token v := rfl
theorem q12_number_written (v : BX12) (x : Int32) : pX12_number (sX12_written v x) = pX12_number v := rfl
theorem q12_word_written (v : BX12) (x : Int32) : pX12_word (sX12_written v x) = pX12_word v := rfl
theorem q12_text0_written (v : BX12) (x : Int32) : pX12_text0 (sX12_written v x) = pX12_text0 v := rfl
theorem q12_clauses_written (v : BX12) (x : Int32) : pX12_clauses (sX12_written v x) = pX12_clauses v := rfl
theorem q12_written_written (v : BX12) (x : Int32) : pX12_written (sX12_written v x) = x := rfl
theorem q12_came_written (v : BX12) (x : Int32) : pX12_came (sX12_written v x) = pX12_came v := rfl
theorem q12_letters_written (v : BX12) (x : Int32) : pX12_letters (sX12_written v x) = pX12_letters v := rfl
theorem q12_piled_written (v : BX12) (x : Int32) : pX12_piled (sX12_written v x) = pX12_piled v := rfl
theorem q12_opens_written (v : BX12) (x : Int32) : pX12_opens (sX12_written v x) = pX12_opens v := rfl
theorem q12_isWhole_written (v : BX12) (x : Int32) : pX12_isWhole (sX12_written v x) = pX12_isWhole v := rfl
theorem q12_bound_written (v : BX12) (x : Int32) : pX12_bound (sX12_written v x) = pX12_bound v := rfl
theorem q12_over_written (v : BX12) (x : Int32) : pX12_over (sX12_written v x) = pX12_over v := rfl
theorem q12_ticks_written (v : BX12) (x : Int32) : pX12_ticks (sX12_written v x) = pX12_ticks v := rfl
theorem q12_atX_written (v : BX12) (x : Int32) : pX12_atX (sX12_written v x) = pX12_atX v := rfl
theorem q12_atY_written (v : BX12) (x : Int32) : pX12_atY (sX12_written v x) = pX12_atY v := rfl
theorem q12_heading_written (v : BX12) (x : Int32) : pX12_heading (sX12_written v x) = pX12_heading v := rfl
theorem q12_hit_written (v : BX12) (x : Int32) : pX12_hit (sX12_written v x) = pX12_hit v := rfl
theorem q12_rested_written (v : BX12) (x : Int32) : pX12_rested (sX12_written v x) = pX12_rested v := rfl
theorem q12_now_written (v : BX12) (x : Int32) : pX12_now (sX12_written v x) = pX12_now v := rfl
theorem q12_turn_written (v : BX12) (x : Int32) : pX12_turn (sX12_written v x) = pX12_turn v := rfl
theorem q12_go_written (v : BX12) (x : Int32) : pX12_go (sX12_written v x) = pX12_go v := rfl
theorem q12_a_written (v : BX12) (x : Int32) : pX12_a (sX12_written v x) = pX12_a v := rfl
theorem q12_image_written (v : BX12) (x : Int32) : pX12_image (sX12_written v x) = pX12_image v := rfl
theorem q12_texts_written (v : BX12) (x : Int32) : pX12_texts (sX12_written v x) = pX12_texts v := rfl
theorem q12_board_written (v : BX12) (x : Int32) : pX12_board (sX12_written v x) = pX12_board v := rfl
theorem q12_taken_written (v : BX12) (x : Int32) : pX12_taken (sX12_written v x) = pX12_taken v := rfl
theorem q12_fars_written (v : BX12) (x : Int32) : pX12_fars (sX12_written v x) = pX12_fars v := rfl
theorem q12_before_written (v : BX12) (x : Int32) : pX12_before (sX12_written v x) = pX12_before v := rfl
theorem q12_tape_written (v : BX12) (x : Int32) : pX12_tape (sX12_written v x) = pX12_tape v := rfl
theorem q12_pile_written (v : BX12) (x : Int32) : pX12_pile (sX12_written v x) = pX12_pile v := rfl
theorem q12_rows_written (v : BX12) (x : Int32) : pX12_rows (sX12_written v x) = pX12_rows v := rfl
theorem q12_told_written (v : BX12) (x : Int32) : pX12_told (sX12_written v x) = pX12_told v := rfl
theorem q12_values_written (v : BX12) (x : Int32) : pX12_values (sX12_written v x) = pX12_values v := rfl
theorem q12_truth_written (v : BX12) (x : Int32) : pX12_truth (sX12_written v x) = pX12_truth v := rfl
theorem q12_keeps_written (v : BX12) (x : Int32) : pX12_keeps (sX12_written v x) = pX12_keeps v := rfl
theorem q12_w_came (v : BX12) (x : Int32) : pX12_w (sX12_came v x) = pX12_w v := rfl
theorem q12_h_came (v : BX12) (x : Int32) : pX12_h (sX12_came v x) = pX12_h v := rfl
theorem q12_taped_came (v : BX12) (x : Int32) : pX12_taped (sX12_came v x) = pX12_taped v := rfl
theorem q12_fault_came (v : BX12) (x : Int32) : pX12_fault (sX12_came v x) = pX12_fault v := rfl
theorem q12_faultPlace_came (v : BX12) (x : Int32) : pX12_faultPlace (sX12_came v x) = pX12_faultPlace v := rfl
theorem q12_at_came (v : BX12) (x : Int32) : pX12_at (sX12_came v x) = pX12_at v := rfl
theorem q12_place_came (v : BX12) (x : Int32) : pX12_place (sX12_came v x) = pX12_place v := rfl
theorem q12_token_came (v : BX12) (x : Int32) : pX12_token (sX12_came v x) = pX12_token v := rfl
theorem q12_number_came (v : BX12) (x : Int32) : pX12_number (sX12_came v x) = pX12_number v := rfl
theorem q12_word_came (v : BX12) (x : Int32) : pX12_word (sX12_came v x) = pX12_word v := rfl
theorem q12_text0_came (v : BX12) (x : Int32) : pX12_text0 (sX12_came v x) = pX12_text0 v := rfl
theorem q12_clauses_came (v : BX12) (x : Int32) : pX12_clauses (sX12_came v x) = pX12_clauses v := rfl
theorem q12_written_came (v : BX12) (x : Int32) : pX12_written (sX12_came v x) = pX12_written v := rfl
theorem q12_came_came (v : BX12) (x : Int32) : pX12_came (sX12_came v x) = x := rfl
theorem q12_letters_came (v : BX12) (x : Int32) : pX12_letters (sX12_came v x) = pX12_letters v := rfl
theorem q12_piled_came (v : BX12) (x : Int32) : pX12_piled (sX12_came v x) = pX12_piled v := rfl
theorem q12_opens_came (v : BX12) (x : Int32) : pX12_opens (sX12_came v x) = pX12_opens v := rfl
theorem q12_isWhole_came (v : BX12) (x : Int32) : pX12_isWhole (sX12_came v x) = pX12_isWhole v := rfl
theorem q12_bound_came (v : BX12) (x : Int32) : pX12_bound (sX12_came v x) = pX12_bound v := rfl
theorem q12_over_came (v : BX12) (x : Int32) : pX12_over (sX12_came v x) = pX12_over v := rfl
theorem q12_ticks_came (v : BX12) (x : Int32) : pX12_ticks (sX12_came v x) = pX12_ticks v := rfl
theorem q12_atX_came (v : BX12) (x : Int32) : pX12_atX (sX12_came v x) = pX12_atX v := rfl
theorem q12_atY_came (v : BX12) (x : Int32) : pX12_atY (sX12_came v x) = pX12_atY v := rfl
theorem q12_heading_came (v : BX12) (x : Int32) : pX12_heading (sX12_came v x) = pX12_heading v := rfl
theorem q12_hit_came (v : BX12) (x : Int32) : pX12_hit (sX12_came v x) = pX12_hit v := rfl
theorem q12_rested_came (v : BX12) (x : Int32) : pX12_rested (sX12_came v x) = pX12_rested v := rfl
theorem q12_now_came (v : BX12) (x : Int32) : pX12_now (sX12_came v x) = pX12_now v := rfl
theorem q12_turn_came (v : BX12) (x : Int32) : pX12_turn (sX12_came v x) = pX12_turn v := rfl
theorem q12_go_came (v : BX12) (x : Int32) : pX12_go (sX12_came v x) = pX12_go v := rfl
theorem q12_a_came (v : BX12) (x : Int32) : pX12_a (sX12_came v x) = pX12_a v := rfl
theorem q12_image_came (v : BX12) (x : Int32) : pX12_image (sX12_came v x) = pX12_image v := rfl
theorem q12_texts_came (v : BX12) (x : Int32) : pX12_texts (sX12_came v x) = pX12_texts v := rfl
theorem q12_board_came (v : BX12) (x : Int32) : pX12_board (sX12_came v x) = pX12_board v := rfl
theorem q12_taken_came (v : BX12) (x : Int32) : pX12_taken (sX12_came v x) = pX12_taken v := rfl
theorem q12_fars_came (v : BX12) (x : Int32) : pX12_fars (sX12_came v x) = pX12_fars v := rfl
theorem q12_before_came (v : BX12) (x : Int32) : pX12_before (sX12_came v x) = pX12_before v := rfl
theorem q12_tape_came (v : BX12) (x : Int32) : pX12_tape (sX12_came v x) = pX12_tape v := rfl
theorem q12_pile_came (v : BX12) (x : Int32) : pX12_pile (sX12_came v x) = pX12_pile v := rfl
theorem q12_rows_came (v : BX12) (x : Int32) : pX12_rows (sX12_came v x) = pX12_rows v := rfl
theorem q12_told_came (v : BX12) (x : Int32) : pX12_told (sX12_came v x) = pX12_told v := rfl
theorem q12_values_came (v : BX12) (x : Int32) : pX12_values (sX12_came v x) = pX12_values v := rfl
theorem q12_truth_came (v : BX12) (x : Int32) : pX12_truth (sX12_came v x) = pX12_truth v := rfl
theorem q12_keeps_came (v : BX12) (x : Int32) : pX12_keeps (sX12_came v x) = pX12_keeps v := rfl
theorem q12_w_letters (v : BX12) (x : Int32) : pX12_w (sX12_letters v x) = pX12_w v := rfl
theorem q12_h_letters (v : BX12) (x : Int32) : pX12_h (sX12_letters v x) = pX12_h v := rfl
theorem q12_taped_letters (v : BX12) (x : Int32) : pX12_taped (sX12_letters v x) = pX12_taped v := rfl
theorem q12_fault_letters (v : BX12) (x : Int32) : pX12_fault (sX12_letters v x) = pX12_fault v := rfl
theorem q12_faultPlace_letters (v : BX12) (x : Int32) : pX12_faultPlace (sX12_letters v x) = pX12_faultPlace v := rfl
theorem q12_at_letters (v : BX12) (x : Int32) : pX12_at (sX12_letters v x) = pX12_at v := rfl
theorem q12_place_letters (v : BX12) (x : Int32) : pX12_place (sX12_letters v x) = pX12_place v := rfl
theorem q12_token_letters (v : BX12) (x : Int32) : pX12_token (sX12_letters v x) = pX12_token v := rfl
theorem q12_number_letters (v : BX12) (x : Int32) : pX12_number (sX12_letters v x) = pX12_number v := rfl
theorem q12_word_letters (v : BX12) (x : Int32) : pX12_word (sX12_letters v x) = pX12_word v := rfl
theorem q12_text0_letters (v : BX12) (x : Int32) : pX12_text0 (sX12_letters v x) = pX12_text0 v := rfl
theorem q12_clauses_letters (v : BX12) (x : Int32) : pX12_clauses (sX12_letters v x) = pX12_clauses v := rfl
theorem q12_written_letters (v : BX12) (x : Int32) : pX12_written (sX12_letters v x) = pX12_written v := rfl
theorem q12_came_letters (v : BX12) (x : Int32) : pX12_came (sX12_letters v x) = pX12_came v := rfl
theorem q12_letters_letters (v : BX12) (x : Int32) : pX12_letters (sX12_letters v x) = x := rfl
theorem q12_piled_letters (v : BX12) (x : Int32) : pX12_piled (sX12_letters v x) = pX12_piled v := rfl
theorem q12_opens_letters (v : BX12) (x : Int32) : pX12_opens (sX12_letters v x) = pX12_opens v := rfl
theorem q12_isWhole_letters (v : BX12) (x : Int32) : pX12_isWhole (sX12_letters v x) = pX12_isWhole v := rfl
theorem q12_bound_letters (v : BX12) (x : Int32) : pX12_bound (sX12_letters v x) = pX12_bound v := rfl
theorem q12_over_letters (v : BX12) (x : Int32) : pX12_over (sX12_letters v x) = pX12_over v := rfl
theorem q12_ticks_letters (v : BX12) (x : Int32) : pX12_ticks (sX12_letters v x) = pX12_ticks v := rfl
theorem q12_atX_letters (v : BX12) (x : Int32) : pX12_atX (sX12_letters v x) = pX12_atX v := rfl
theorem q12_atY_letters (v : BX12) (x : Int32) : pX12_atY (sX12_letters v x) = pX12_atY v := rfl
theorem q12_heading_letters (v : BX12) (x : Int32) : pX12_heading (sX12_letters v x) = pX12_heading v := rfl
theorem q12_hit_letters (v : BX12) (x : Int32) : pX12_hit (sX12_letters v x) = pX12_hit v := rfl
theorem q12_rested_letters (v : BX12) (x : Int32) : pX12_rested (sX12_letters v x) = pX12_rested v := rfl
theorem q12_now_letters (v : BX12) (x : Int32) : pX12_now (sX12_letters v x) = pX12_now v := rfl
theorem q12_turn_letters (v : BX12) (x : Int32) : pX12_turn (sX12_letters v x) = pX12_turn v := rfl
theorem q12_go_letters (v : BX12) (x : Int32) : pX12_go (sX12_letters v x) = pX12_go v := rfl
theorem q12_a_letters (v : BX12) (x : Int32) : pX12_a (sX12_letters v x) = pX12_a v := rfl
theorem q12_image_letters (v : BX12) (x : Int32) : pX12_image (sX12_letters v x) = pX12_image v := rfl
theorem q12_texts_letters (v : BX12) (x : Int32) : pX12_texts (sX12_letters v x) = pX12_texts v := rfl
theorem q12_board_letters (v : BX12) (x : Int32) : pX12_board (sX12_letters v x) = pX12_board v := rfl
theorem q12_taken_letters (v : BX12) (x : Int32) : pX12_taken (sX12_letters v x) = pX12_taken v := rfl
theorem q12_fars_letters (v : BX12) (x : Int32) : pX12_fars (sX12_letters v x) = pX12_fars v := rfl
theorem q12_before_letters (v : BX12) (x : Int32) : pX12_before (sX12_letters v x) = pX12_before v := rfl
theorem q12_tape_letters (v : BX12) (x : Int32) : pX12_tape (sX12_letters v x) = pX12_tape v := rfl
theorem q12_pile_letters (v : BX12) (x : Int32) : pX12_pile (sX12_letters v x) = pX12_pile v := rfl
theorem q12_rows_letters (v : BX12) (x : Int32) : pX12_rows (sX12_letters v x) = pX12_rows v := rfl
theorem q12_told_letters (v : BX12) (x : Int32) : pX12_told (sX12_letters v x) = pX12_told v := rfl
theorem q12_values_letters (v : BX12) (x : Int32) : pX12_values (sX12_letters v x) = pX12_values v := rfl
theorem q12_truth_letters (v : BX12) (x : Int32) : pX12_truth (sX12_letters v x) = pX12_truth v := rfl
theorem q12_keeps_letters (v : BX12) (x : Int32) : pX12_keeps (sX12_letters v x) = pX12_keeps v := rfl
theorem q12_w_piled (v : BX12) (x : Int32) : pX12_w (sX12_piled v x) = pX12_w v := rfl
theorem q12_h_piled (v : BX12) (x : Int32) : pX12_h (sX12_piled v x) = pX12_h v := rfl
theorem q12_taped_piled (v : BX12) (x : Int32) : pX12_taped (sX12_piled v x) = pX12_taped v := rfl
theorem q12_fault_piled (v : BX12) (x : Int32) : pX12_fault (sX12_piled v x) = pX12_fault v := rfl
theorem q12_faultPlace_piled (v : BX12) (x : Int32) : pX12_faultPlace (sX12_piled v x) = pX12_faultPlace v := rfl
theorem q12_at_piled (v : BX12) (x : Int32) : pX12_at (sX12_piled v x) = pX12_at v := rfl
theorem q12_place_piled (v : BX12) (x : Int32) : pX12_place (sX12_piled v x) = pX12_place v := rfl
theorem q12_token_piled (v : BX12) (x : Int32) : pX12_token (sX12_piled v x) = pX12_token v := rfl
theorem q12_number_piled (v : BX12) (x : Int32) : pX12_number (sX12_piled v x) = pX12_number v := rfl
theorem q12_word_piled (v : BX12) (x : Int32) : pX12_word (sX12_piled v x) = pX12_word v := rfl
theorem q12_text0_piled (v : BX12) (x : Int32) : pX12_text0 (sX12_piled v x) = pX12_text0 v := rfl
theorem q12_clauses_piled (v : BX12) (x : Int32) : pX12_clauses (sX12_piled v x) = pX12_clauses v := rfl
theorem q12_written_piled (v : BX12) (x : Int32) : pX12_written (sX12_piled v x) = pX12_written v := rfl
theorem q12_came_piled (v : BX12) (x : Int32) : pX12_came (sX12_piled v x) = pX12_came v := rfl
theorem q12_letters_piled (v : BX12) (x : Int32) : pX12_letters (sX12_piled v x) = pX12_letters v := rfl
theorem q12_piled_piled (v : BX12) (x : Int32) : pX12_piled (sX12_piled v x) = x := rfl
theorem q12_opens_piled (v : BX12) (x : Int32) : pX12_opens (sX12_piled v x) = pX12_opens v := rfl
theorem q12_isWhole_piled (v : BX12) (x : Int32) : pX12_isWhole (sX12_piled v x) = pX12_isWhole v := rfl
theorem q12_bound_piled (v : BX12) (x : Int32) : pX12_bound (sX12_piled v x) = pX12_bound v := rfl
theorem q12_over_piled (v : BX12) (x : Int32) : pX12_over (sX12_piled v x) = pX12_over v := rfl
theorem q12_ticks_piled (v : BX12) (x : Int32) : pX12_ticks (sX12_piled v x) = pX12_ticks v := rfl
theorem q12_atX_piled (v : BX12) (x : Int32) : pX12_atX (sX12_piled v x) = pX12_atX v := rfl
theorem q12_atY_piled (v : BX12) (x : Int32) : pX12_atY (sX12_piled v x) = pX12_atY v := rfl
theorem q12_heading_piled (v : BX12) (x : Int32) : pX12_heading (sX12_piled v x) = pX12_heading v := rfl
theorem q12_hit_piled (v : BX12) (x : Int32) : pX12_hit (sX12_piled v x) = pX12_hit v := rfl
theorem q12_rested_piled (v : BX12) (x : Int32) : pX12_rested (sX12_piled v x) = pX12_rested v := rfl
theorem q12_now_piled (v : BX12) (x : Int32) : pX12_now (sX12_piled v x) = pX12_now v := rfl
theorem q12_turn_piled (v : BX12) (x : Int32) : pX12_turn (sX12_piled v x) = pX12_turn v := rfl
theorem q12_go_piled (v : BX12) (x : Int32) : pX12_go (sX12_piled v x) = pX12_go v := rfl
theorem q12_a_piled (v : BX12) (x : Int32) : pX12_a (sX12_piled v x) = pX12_a v := rfl
theorem q12_image_piled (v : BX12) (x : Int32) : pX12_image (sX12_piled v x) = pX12_image v := rfl
theorem q12_texts_piled (v : BX12) (x : Int32) : pX12_texts (sX12_piled v x) = pX12_texts v := rfl
theorem q12_board_piled (v : BX12) (x : Int32) : pX12_board (sX12_piled v x) = pX12_board v := rfl
theorem q12_taken_piled (v : BX12) (x : Int32) : pX12_taken (sX12_piled v x) = pX12_taken v := rfl
theorem q12_fars_piled (v : BX12) (x : Int32) : pX12_fars (sX12_piled v x) = pX12_fars v := rfl
theorem q12_before_piled (v : BX12) (x : Int32) : pX12_before (sX12_piled v x) = pX12_before v := rfl
theorem q12_tape_piled (v : BX12) (x : Int32) : pX12_tape (sX12_piled v x) = pX12_tape v := rfl
theorem q12_pile_piled (v : BX12) (x : Int32) : pX12_pile (sX12_piled v x) = pX12_pile v := rfl
theorem q12_rows_piled (v : BX12) (x : Int32) : pX12_rows (sX12_piled v x) = pX12_rows v := rfl
theorem q12_told_piled (v : BX12) (x : Int32) : pX12_told (sX12_piled v x) = pX12_told v := rfl
theorem q12_values_piled (v : BX12) (x : Int32) : pX12_values (sX12_piled v x) = pX12_values v := rfl
theorem q12_truth_piled (v : BX12) (x : Int32) : pX12_truth (sX12_piled v x) = pX12_truth v := rfl
theorem q12_keeps_piled (v : BX12) (x : Int32) : pX12_keeps (sX12_piled v x) = pX12_keeps v := rfl
theorem q12_w_opens (v : BX12) (x : Int32) : pX12_w (sX12_opens v x) = pX12_w v := rfl
theorem q12_h_opens (v : BX12) (x : Int32) : pX12_h (sX12_opens v x) = pX12_h v := rfl
theorem q12_taped_opens (v : BX12) (x : Int32) : pX12_taped (sX12_opens v x) = pX12_taped v := rfl
theorem q12_fault_opens (v : BX12) (x : Int32) : pX12_fault (sX12_opens v x) = pX12_fault v := rfl
theorem q12_faultPlace_opens (v : BX12) (x : Int32) : pX12_faultPlace (sX12_opens v x) = pX12_faultPlace v := rfl
theorem q12_at_opens (v : BX12) (x : Int32) : pX12_at (sX12_opens v x) = pX12_at v := rfl
theorem q12_place_opens (v : BX12) (x : Int32) : pX12_place (sX12_opens v x) = pX12_place v := rfl
theorem q12_token_opens (v : BX12) (x : Int32) : pX12_token (sX12_opens v x) = pX12_token v := rfl
theorem q12_number_opens (v : BX12) (x : Int32) : pX12_number (sX12_opens v x) = pX12_number v := rfl
theorem q12_word_opens (v : BX12) (x : Int32) : pX12_word (sX12_opens v x) = pX12_word v := rfl
theorem q12_text0_opens (v : BX12) (x : Int32) : pX12_text0 (sX12_opens v x) = pX12_text0 v := rfl
theorem q12_clauses_opens (v : BX12) (x : Int32) : pX12_clauses (sX12_opens v x) = pX12_clauses v := rfl
theorem q12_written_opens (v : BX12) (x : Int32) : pX12_written (sX12_opens v x) = pX12_written v := rfl
theorem q12_came_opens (v : BX12) (x : Int32) : pX12_came (sX12_opens v x) = pX12_came v := rfl
theorem q12_letters_opens (v : BX12) (x : Int32) : pX12_letters (sX12_opens v x) = pX12_letters v := rfl
theorem q12_piled_opens (v : BX12) (x : Int32) : pX12_piled (sX12_opens v x) = pX12_piled v := rfl
theorem q12_opens_opens (v : BX12) (x : Int32) : pX12_opens (sX12_opens v x) = x := rfl
theorem q12_isWhole_opens (v : BX12) (x : Int32) : pX12_isWhole (sX12_opens v x) = pX12_isWhole v := rfl
theorem q12_bound_opens (v : BX12) (x : Int32) : pX12_bound (sX12_opens v x) = pX12_bound v := rfl
theorem q12_over_opens (v : BX12) (x : Int32) : pX12_over (sX12_opens v x) = pX12_over v := rfl
theorem q12_ticks_opens (v : BX12) (x : Int32) : pX12_ticks (sX12_opens v x) = pX12_ticks v := rfl
theorem q12_atX_opens (v : BX12) (x : Int32) : pX12_atX (sX12_opens v x) = pX12_atX v := rfl
theorem q12_atY_opens (v : BX12) (x : Int32) : pX12_atY (sX12_opens v x) = pX12_atY v := rfl
theorem q12_heading_opens (v : BX12) (x : Int32) : pX12_heading (sX12_opens v x) = pX12_heading v := rfl
theorem q12_hit_opens (v : BX12) (x : Int32) : pX12_hit (sX12_opens v x) = pX12_hit v := rfl
theorem q12_rested_opens (v : BX12) (x : Int32) : pX12_rested (sX12_opens v x) = pX12_rested v := rfl
theorem q12_now_opens (v : BX12) (x : Int32) : pX12_now (sX12_opens v x) = pX12_now v := rfl
theorem q12_turn_opens (v : BX12) (x : Int32) : pX12_turn (sX12_opens v x) = pX12_turn v := rfl
theorem q12_go_opens (v : BX12) (x : Int32) : pX12_go (sX12_opens v x) = pX12_go v := rfl
theorem q12_a_opens (v : BX12) (x : Int32) : pX12_a (sX12_opens v x) = pX12_a v := rfl
theorem q12_image_opens (v : BX12) (x : Int32) : pX12_image (sX12_opens v x) = pX12_image v := rfl
theorem q12_texts_opens (v : BX12) (x : Int32) : pX12_texts (sX12_opens v x) = pX12_texts v := rfl
theorem q12_board_opens (v : BX12) (x : Int32) : pX12_board (sX12_opens v x) = pX12_board v := rfl
theorem q12_taken_opens (v : BX12) (x : Int32) : pX12_taken (sX12_opens v x) = pX12_taken v := rfl
theorem q12_fars_opens (v : BX12) (x : Int32) : pX12_fars (sX12_opens v x) = pX12_fars v := rfl
theorem q12_before_opens (v : BX12) (x : Int32) : pX12_before (sX12_opens v x) = pX12_before v := rfl
theorem q12_tape_opens (v : BX12) (x : Int32) : pX12_tape (sX12_opens v x) = pX12_tape v := rfl
theorem q12_pile_opens (v : BX12) (x : Int32) : pX12_pile (sX12_opens v x) = pX12_pile v := rfl
theorem q12_rows_opens (v : BX12) (x : Int32) : pX12_rows (sX12_opens v x) = pX12_rows v := rfl
theorem q12_told_opens (v : BX12) (x : Int32) : pX12_told (sX12_opens v x) = pX12_told v := rfl
theorem q12_values_opens (v : BX12) (x : Int32) : pX12_values (sX12_opens v x) = pX12_values v := rfl
theorem q12_truth_opens (v : BX12) (x : Int32) : pX12_truth (sX12_opens v x) = pX12_truth v := rfl
theorem q12_keeps_opens (v : BX12) (x : Int32) : pX12_keeps (sX12_opens v x) = pX12_keeps v := rfl
theorem q12_w_isWhole (v : BX12) (x : Int32) : pX12_w (sX12_isWhole v x) = pX12_w v := rfl
theorem q12_h_isWhole (v : BX12) (x : Int32) : pX12_h (sX12_isWhole v x) = pX12_h v := rfl
theorem q12_taped_isWhole (v : BX12) (x : Int32) : pX12_taped (sX12_isWhole v x) = pX12_taped v := rfl
theorem q12_fault_isWhole (v : BX12) (x : Int32) : pX12_fault (sX12_isWhole v x) = pX12_fault v := rfl
theorem q12_faultPlace_isWhole (v : BX12) (x : Int32) : pX12_faultPlace (sX12_isWhole v x) = pX12_faultPlace v := rfl
theorem q12_at_isWhole (v : BX12) (x : Int32) : pX12_at (sX12_isWhole v x) = pX12_at v := rfl
theorem q12_place_isWhole (v : BX12) (x : Int32) : pX12_place (sX12_isWhole v x) = pX12_place v := rfl
theorem q12_token_isWhole (v : BX12) (x : Int32) : pX12_token (sX12_isWhole v x) = pX12_token v := rfl
theorem q12_number_isWhole (v : BX12) (x : Int32) : pX12_number (sX12_isWhole v x) = pX12_number v := rfl
theorem q12_word_isWhole (v : BX12) (x : Int32) : pX12_word (sX12_isWhole v x) = pX12_word v := rfl
theorem q12_text0_isWhole (v : BX12) (x : Int32) : pX12_text0 (sX12_isWhole v x) = pX12_text0 v := rfl
theorem q12_clauses_isWhole (v : BX12) (x : Int32) : pX12_clauses (sX12_isWhole v x) = pX12_clauses v := rfl
theorem q12_written_isWhole (v : BX12) (x : Int32) : pX12_written (sX12_isWhole v x) = pX12_written v := rfl
theorem q12_came_isWhole (v : BX12) (x : Int32) : pX12_came (sX12_isWhole v x) = pX12_came v := rfl
theorem q12_letters_isWhole (v : BX12) (x : Int32) : pX12_letters (sX12_isWhole v x) = pX12_letters v := rfl
theorem q12_piled_isWhole (v : BX12) (x : Int32) : pX12_piled (sX12_isWhole v x) = pX12_piled v := rfl
theorem q12_opens_isWhole (v : BX12) (x : Int32) : pX12_opens (sX12_isWhole v x) = pX12_opens v := rfl
theorem q12_isWhole_isWhole (v : BX12) (x : Int32) : pX12_isWhole (sX12_isWhole v x) = x := rfl
theorem q12_bound_isWhole (v : BX12) (x : Int32) : pX12_bound (sX12_isWhole v x) = pX12_bound v := rfl
theorem q12_over_isWhole (v : BX12) (x : Int32) : pX12_over (sX12_isWhole v x) = pX12_over v := rfl
theorem q12_ticks_isWhole (v : BX12) (x : Int32) : pX12_ticks (sX12_isWhole v x) = pX12_ticks v := rfl
theorem q12_atX_isWhole (v : BX12) (x : Int32) : pX12_atX (sX12_isWhole v x) = pX12_atX v := rfl
theorem q12_atY_isWhole (v : BX12) (x : Int32) : pX12_atY (sX12_isWhole v x) = pX12_atY v := rfl
theorem q12_heading_isWhole (v : BX12) (x : Int32) : pX12_heading (sX12_isWhole v x) = pX12_heading v := rfl
theorem q12_hit_isWhole (v : BX12) (x : Int32) : pX12_hit (sX12_isWhole v x) = pX12_hit v := rfl
theorem q12_rested_isWhole (v : BX12) (x : Int32) : pX12_rested (sX12_isWhole v x) = pX12_rested v := rfl
theorem q12_now_isWhole (v : BX12) (x : Int32) : pX12_now (sX12_isWhole v x) = pX12_now v := rfl
theorem q12_turn_isWhole (v : BX12) (x : Int32) : pX12_turn (sX12_isWhole v x) = pX12_turn v := rfl
theorem q12_go_isWhole (v : BX12) (x : Int32) : pX12_go (sX12_isWhole v x) = pX12_go v := rfl
theorem q12_a_isWhole (v : BX12) (x : Int32) : pX12_a (sX12_isWhole v x) = pX12_a v := rfl
theorem q12_image_isWhole (v : BX12) (x : Int32) : pX12_image (sX12_isWhole v x) = pX12_image v := rfl
theorem q12_texts_isWhole (v : BX12) (x : Int32) : pX12_texts (sX12_isWhole v x) = pX12_texts v := rfl
theorem q12_board_isWhole (v : BX12) (x : Int32) : pX12_board (sX12_isWhole v x) = pX12_board v := rfl
theorem q12_taken_isWhole (v : BX12) (x : Int32) : pX12_taken (sX12_isWhole v x) = pX12_taken v := rfl
theorem q12_fars_isWhole (v : BX12) (x : Int32) : pX12_fars (sX12_isWhole v x) = pX12_fars v := rfl
theorem q12_before_isWhole (v : BX12) (x : Int32) : pX12_before (sX12_isWhole v x) = pX12_before v := rfl
theorem q12_tape_isWhole (v : BX12) (x : Int32) : pX12_tape (sX12_isWhole v x) = pX12_tape v := rfl
theorem q12_pile_isWhole (v : BX12) (x : Int32) : pX12_pile (sX12_isWhole v x) = pX12_pile v := rfl
theorem q12_rows_isWhole (v : BX12) (x : Int32) : pX12_rows (sX12_isWhole v x) = pX12_rows v := rfl
theorem q12_told_isWhole (v : BX12) (x : Int32) : pX12_told (sX12_isWhole v x) = pX12_told v := rfl
theorem q12_values_isWhole (v : BX12) (x : Int32) : pX12_values (sX12_isWhole v x) = pX12_values v := rfl
theorem q12_truth_isWhole (v : BX12) (x : Int32) : pX12_truth (sX12_isWhole v x) = pX12_truth v := rfl
theorem q12_keeps_isWhole (v : BX12) (x : Int32) : pX12_keeps (sX12_isWhole v x) = pX12_keeps v := rfl
theorem q12_w_bound (v : BX12) (x : Int64) : pX12_w (sX12_bound v x) = pX12_w v := rfl
theorem q12_h_bound (v : BX12) (x : Int64) : pX12_h (sX12_bound v x) = pX12_h v := rfl
theorem q12_taped_bound (v : BX12) (x : Int64) : pX12_taped (sX12_bound v x) = pX12_taped v := rfl
theorem q12_fault_bound (v : BX12) (x : Int64) : pX12_fault (sX12_bound v x) = pX12_fault v := rfl
theorem q12_faultPlace_bound (v : BX12) (x : Int64) : pX12_faultPlace (sX12_bound v x) = pX12_faultPlace v := rfl
theorem q12_at_bound (v : BX12) (x : Int64) : pX12_at (sX12_bound v x) = pX12_at v := rfl
theorem q12_place_bound (v : BX12) (x : Int64) : pX12_place (sX12_bound v x) = pX12_place v := rfl
theorem q12_token_bound (v : BX12) (x : Int64) : pX12_token (sX12_bound v x) = pX12_token v := rfl
theorem q12_number_bound (v : BX12) (x : Int64) : pX12_number (sX12_bound v x) = pX12_number v := rfl
theorem q12_word_bound (v : BX12) (x : Int64) : pX12_word (sX12_bound v x) = pX12_word v := rfl
theorem q12_text0_bound (v : BX12) (x : Int64) : pX12_text0 (sX12_bound v x) = pX12_text0 v := rfl
theorem q12_clauses_bound (v : BX12) (x : Int64) : pX12_clauses (sX12_bound v x) = pX12_clauses v := rfl
theorem q12_written_bound (v : BX12) (x : Int64) : pX12_written (sX12_bound v x) = pX12_written v := rfl
theorem q12_came_bound (v : BX12) (x : Int64) : pX12_came (sX12_bound v x) = pX12_came v := rfl
theorem q12_letters_bound (v : BX12) (x : Int64) : pX12_letters (sX12_bound v x) = pX12_letters v := rfl
theorem q12_piled_bound (v : BX12) (x : Int64) : pX12_piled (sX12_bound v x) = pX12_piled v := rfl
theorem q12_opens_bound (v : BX12) (x : Int64) : pX12_opens (sX12_bound v x) = pX12_opens v := rfl
theorem q12_isWhole_bound (v : BX12) (x : Int64) : pX12_isWhole (sX12_bound v x) = pX12_isWhole v := rfl
theorem q12_bound_bound (v : BX12) (x : Int64) : pX12_bound (sX12_bound v x) = x := rfl
theorem q12_over_bound (v : BX12) (x : Int64) : pX12_over (sX12_bound v x) = pX12_over v := rfl
theorem q12_ticks_bound (v : BX12) (x : Int64) : pX12_ticks (sX12_bound v x) = pX12_ticks v := rfl
theorem q12_atX_bound (v : BX12) (x : Int64) : pX12_atX (sX12_bound v x) = pX12_atX v := rfl
theorem q12_atY_bound (v : BX12) (x : Int64) : pX12_atY (sX12_bound v x) = pX12_atY v := rfl
theorem q12_heading_bound (v : BX12) (x : Int64) : pX12_heading (sX12_bound v x) = pX12_heading v := rfl
theorem q12_hit_bound (v : BX12) (x : Int64) : pX12_hit (sX12_bound v x) = pX12_hit v := rfl
theorem q12_rested_bound (v : BX12) (x : Int64) : pX12_rested (sX12_bound v x) = pX12_rested v := rfl
theorem q12_now_bound (v : BX12) (x : Int64) : pX12_now (sX12_bound v x) = pX12_now v := rfl
theorem q12_turn_bound (v : BX12) (x : Int64) : pX12_turn (sX12_bound v x) = pX12_turn v := rfl
theorem q12_go_bound (v : BX12) (x : Int64) : pX12_go (sX12_bound v x) = pX12_go v := rfl
theorem q12_a_bound (v : BX12) (x : Int64) : pX12_a (sX12_bound v x) = pX12_a v := rfl
theorem q12_image_bound (v : BX12) (x : Int64) : pX12_image (sX12_bound v x) = pX12_image v := rfl
theorem q12_texts_bound (v : BX12) (x : Int64) : pX12_texts (sX12_bound v x) = pX12_texts v := rfl
theorem q12_board_bound (v : BX12) (x : Int64) : pX12_board (sX12_bound v x) = pX12_board v := rfl
theorem q12_taken_bound (v : BX12) (x : Int64) : pX12_taken (sX12_bound v x) = pX12_taken v := rfl
theorem q12_fars_bound (v : BX12) (x : Int64) : pX12_fars (sX12_bound v x) = pX12_fars v := rfl
theorem q12_before_bound (v : BX12) (x : Int64) : pX12_before (sX12_bound v x) = pX12_before v := rfl
theorem q12_tape_bound (v : BX12) (x : Int64) : pX12_tape (sX12_bound v x) = pX12_tape v := rfl
theorem q12_pile_bound (v : BX12) (x : Int64) : pX12_pile (sX12_bound v x) = pX12_pile v := rfl
theorem q12_rows_bound (v : BX12) (x : Int64) : pX12_rows (sX12_bound v x) = pX12_rows v := rfl
theorem q12_told_bound (v : BX12) (x : Int64) : pX12_told (sX12_bound v x) = pX12_told v := rfl
theorem q12_values_bound (v : BX12) (x : Int64) : pX12_values (sX12_bound v x) = pX12_values v := rfl
theorem q12_truth_bound (v : BX12) (x : Int64) : pX12_truth (sX12_bound v x) = pX12_truth v := rfl
theorem q12_keeps_bound (v : BX12) (x : Int64) : pX12_keeps (sX12_bound v x) = pX12_keeps v := rfl
theorem q12_w_over (v : BX12) (x : Int32) : pX12_w (sX12_over v x) = pX12_w v := rfl
theorem q12_h_over (v : BX12) (x : Int32) : pX12_h (sX12_over v x) = pX12_h v := rfl
theorem q12_taped_over (v : BX12) (x : Int32) : pX12_taped (sX12_over v x) = pX12_taped v := rfl
theorem q12_fault_over (v : BX12) (x : Int32) : pX12_fault (sX12_over v x) = pX12_fault v := rfl
theorem q12_faultPlace_over (v : BX12) (x : Int32) : pX12_faultPlace (sX12_over v x) = pX12_faultPlace v := rfl
theorem q12_at_over (v : BX12) (x : Int32) : pX12_at (sX12_over v x) = pX12_at v := rfl
theorem q12_place_over (v : BX12) (x : Int32) : pX12_place (sX12_over v x) = pX12_place v := rfl
theorem q12_token_over (v : BX12) (x : Int32) : pX12_token (sX12_over v x) = pX12_token v := rfl
theorem q12_number_over (v : BX12) (x : Int32) : pX12_number (sX12_over v x) = pX12_number v := rfl
theorem q12_word_over (v : BX12) (x : Int32) : pX12_word (sX12_over v x) = pX12_word v := rfl
theorem q12_text0_over (v : BX12) (x : Int32) : pX12_text0 (sX12_over v x) = pX12_text0 v := rfl
theorem q12_clauses_over (v : BX12) (x : Int32) : pX12_clauses (sX12_over v x) = pX12_clauses v := rfl
theorem q12_written_over (v : BX12) (x : Int32) : pX12_written (sX12_over v x) = pX12_written v := rfl
theorem q12_came_over (v : BX12) (x : Int32) : pX12_came (sX12_over v x) = pX12_came v := rfl
theorem q12_letters_over (v : BX12) (x : Int32) : pX12_letters (sX12_over v x) = pX12_letters v := rfl
theorem q12_piled_over (v : BX12) (x : Int32) : pX12_piled (sX12_over v x) = pX12_piled v := rfl
theorem q12_opens_over (v : BX12) (x : Int32) : pX12_opens (sX12_over v x) = pX12_opens v := rfl
theorem q12_isWhole_over (v : BX12) (x : Int32) : pX12_isWhole (sX12_over v x) = pX12_isWhole v := rfl
theorem q12_bound_over (v : BX12) (x : Int32) : pX12_bound (sX12_over v x) = pX12_bound v := rfl
theorem q12_over_over (v : BX12) (x : Int32) : pX12_over (sX12_over v x) = x := rfl
theorem q12_ticks_over (v : BX12) (x : Int32) : pX12_ticks (sX12_over v x) = pX12_ticks v := rfl
theorem q12_atX_over (v : BX12) (x : Int32) : pX12_atX (sX12_over v x) = pX12_atX v := rfl
theorem q12_atY_over (v : BX12) (x : Int32) : pX12_atY (sX12_over v x) = pX12_atY v := rfl
theorem q12_heading_over (v : BX12) (x : Int32) : pX12_heading (sX12_over v x) = pX12_heading v := rfl
theorem q12_hit_over (v : BX12) (x : Int32) : pX12_hit (sX12_over v x) = pX12_hit v := rfl
theorem q12_rested_over (v : BX12) (x : Int32) : pX12_rested (sX12_over v x) = pX12_rested v := rfl
theorem q12_now_over (v : BX12) (x : Int32) : pX12_now (sX12_over v x) = pX12_now v := rfl
theorem q12_turn_over (v : BX12) (x : Int32) : pX12_turn (sX12_over v x) = pX12_turn v := rfl
theorem q12_go_over (v : BX12) (x : Int32) : pX12_go (sX12_over v x) = pX12_go v := rfl
theorem q12_a_over (v : BX12) (x : Int32) : pX12_a (sX12_over v x) = pX12_a v := rfl
theorem q12_image_over (v : BX12) (x : Int32) : pX12_image (sX12_over v x) = pX12_image v := rfl
theorem q12_texts_over (v : BX12) (x : Int32) : pX12_texts (sX12_over v x) = pX12_texts v := rfl
theorem q12_board_over (v : BX12) (x : Int32) : pX12_board (sX12_over v x) = pX12_board v := rfl
theorem q12_taken_over (v : BX12) (x : Int32) : pX12_taken (sX12_over v x) = pX12_taken v := rfl
theorem q12_fars_over (v : BX12) (x : Int32) : pX12_fars (sX12_over v x) = pX12_fars v := rfl
theorem q12_before_over (v : BX12) (x : Int32) : pX12_before (sX12_over v x) = pX12_before v := rfl
theorem q12_tape_over (v : BX12) (x : Int32) : pX12_tape (sX12_over v x) = pX12_tape v := rfl
theorem q12_pile_over (v : BX12) (x : Int32) : pX12_pile (sX12_over v x) = pX12_pile v := rfl
theorem q12_rows_over (v : BX12) (x : Int32) : pX12_rows (sX12_over v x) = pX12_rows v := rfl
theorem q12_told_over (v : BX12) (x : Int32) : pX12_told (sX12_over v x) = pX12_told v := rfl
theorem q12_values_over (v : BX12) (x : Int32) : pX12_values (sX12_over v x) = pX12_values v := rfl
theorem q12_truth_over (v : BX12) (x : Int32) : pX12_truth (sX12_over v x) = pX12_truth v := rfl
theorem q12_keeps_over (v : BX12) (x : Int32) : pX12_keeps (sX12_over v x) = pX12_keeps v := rfl
theorem q12_w_ticks (v : BX12) (x : Int32) : pX12_w (sX12_ticks v x) = pX12_w v := rfl
theorem q12_h_ticks (v : BX12) (x : Int32) : pX12_h (sX12_ticks v x) = pX12_h v := rfl
theorem q12_taped_ticks (v : BX12) (x : Int32) : pX12_taped (sX12_ticks v x) = pX12_taped v := rfl
theorem q12_fault_ticks (v : BX12) (x : Int32) : pX12_fault (sX12_ticks v x) = pX12_fault v := rfl
theorem q12_faultPlace_ticks (v : BX12) (x : Int32) : pX12_faultPlace (sX12_ticks v x) = pX12_faultPlace v := rfl
theorem q12_at_ticks (v : BX12) (x : Int32) : pX12_at (sX12_ticks v x) = pX12_at v := rfl
theorem q12_place_ticks (v : BX12) (x : Int32) : pX12_place (sX12_ticks v x) = pX12_place v := rfl
theorem q12_token_ticks (v : BX12) (x : Int32) : pX12_token (sX12_ticks v x) = pX12_token v := rfl
theorem q12_number_ticks (v : BX12) (x : Int32) : pX12_number (sX12_ticks v x) = pX12_number v := rfl
theorem q12_word_ticks (v : BX12) (x : Int32) : pX12_word (sX12_ticks v x) = pX12_word v := rfl
theorem q12_text0_ticks (v : BX12) (x : Int32) : pX12_text0 (sX12_ticks v x) = pX12_text0 v := rfl
theorem q12_clauses_ticks (v : BX12) (x : Int32) : pX12_clauses (sX12_ticks v x) = pX12_clauses v := rfl
theorem q12_written_ticks (v : BX12) (x : Int32) : pX12_written (sX12_ticks v x) = pX12_written v := rfl
theorem q12_came_ticks (v : BX12) (x : Int32) : pX12_came (sX12_ticks v x) = pX12_came v := rfl
theorem q12_letters_ticks (v : BX12) (x : Int32) : pX12_letters (sX12_ticks v x) = pX12_letters v := rfl
theorem q12_piled_ticks (v : BX12) (x : Int32) : pX12_piled (sX12_ticks v x) = pX12_piled v := rfl
theorem q12_opens_ticks (v : BX12) (x : Int32) : pX12_opens (sX12_ticks v x) = pX12_opens v := rfl
theorem q12_isWhole_ticks (v : BX12) (x : Int32) : pX12_isWhole (sX12_ticks v x) = pX12_isWhole v := rfl
theorem q12_bound_ticks (v : BX12) (x : Int32) : pX12_bound (sX12_ticks v x) = pX12_bound v := rfl
theorem q12_over_ticks (v : BX12) (x : Int32) : pX12_over (sX12_ticks v x) = pX12_over v := rfl
theorem q12_ticks_ticks (v : BX12) (x : Int32) : pX12_ticks (sX12_ticks v x) = x := rfl
theorem q12_atX_ticks (v : BX12) (x : Int32) : pX12_atX (sX12_ticks v x) = pX12_atX v := rfl
theorem q12_atY_ticks (v : BX12) (x : Int32) : pX12_atY (sX12_ticks v x) = pX12_atY v := rfl
theorem q12_heading_ticks (v : BX12) (x : Int32) : pX12_heading (sX12_ticks v x) = pX12_heading v := rfl
theorem q12_hit_ticks (v : BX12) (x : Int32) : pX12_hit (sX12_ticks v x) = pX12_hit v := rfl
theorem q12_rested_ticks (v : BX12) (x : Int32) : pX12_rested (sX12_ticks v x) = pX12_rested v := rfl
theorem q12_now_ticks (v : BX12) (x : Int32) : pX12_now (sX12_ticks v x) = pX12_now v := rfl
theorem q12_turn_ticks (v : BX12) (x : Int32) : pX12_turn (sX12_ticks v x) = pX12_turn v := rfl
theorem q12_go_ticks (v : BX12) (x : Int32) : pX12_go (sX12_ticks v x) = pX12_go v := rfl
theorem q12_a_ticks (v : BX12) (x : Int32) : pX12_a (sX12_ticks v x) = pX12_a v := rfl
theorem q12_image_ticks (v : BX12) (x : Int32) : pX12_image (sX12_ticks v x) = pX12_image v := rfl
theorem q12_texts_ticks (v : BX12) (x : Int32) : pX12_texts (sX12_ticks v x) = pX12_texts v := rfl
theorem q12_board_ticks (v : BX12) (x : Int32) : pX12_board (sX12_ticks v x) = pX12_board v := rfl
theorem q12_taken_ticks (v : BX12) (x : Int32) : pX12_taken (sX12_ticks v x) = pX12_taken v := rfl
theorem q12_fars_ticks (v : BX12) (x : Int32) : pX12_fars (sX12_ticks v x) = pX12_fars v := rfl
theorem q12_before_ticks (v : BX12) (x : Int32) : pX12_before (sX12_ticks v x) = pX12_before v := rfl
theorem q12_tape_ticks (v : BX12) (x : Int32) : pX12_tape (sX12_ticks v x) = pX12_tape v := rfl
theorem q12_pile_ticks (v : BX12) (x : Int32) : pX12_pile (sX12_ticks v x) = pX12_pile v := rfl
theorem q12_rows_ticks (v : BX12) (x : Int32) : pX12_rows (sX12_ticks v x) = pX12_rows v := rfl
theorem q12_told_ticks (v : BX12) (x : Int32) : pX12_told (sX12_ticks v x) = pX12_told v := rfl
theorem q12_values_ticks (v : BX12) (x : Int32) : pX12_values (sX12_ticks v x) = pX12_values v := rfl
theorem q12_truth_ticks (v : BX12) (x : Int32) : pX12_truth (sX12_ticks v x) = pX12_truth v := rfl
theorem q12_keeps_ticks (v : BX12) (x : Int32) : pX12_keeps (sX12_ticks v x) = pX12_keeps v := rfl
theorem q12_w_atX (v : BX12) (x : Int32) : pX12_w (sX12_atX v x) = pX12_w v := rfl
theorem q12_h_atX (v : BX12) (x : Int32) : pX12_h (sX12_atX v x) = pX12_h v := rfl
theorem q12_taped_atX (v : BX12) (x : Int32) : pX12_taped (sX12_atX v x) = pX12_taped v := rfl
theorem q12_fault_atX (v : BX12) (x : Int32) : pX12_fault (sX12_atX v x) = pX12_fault v := rfl
theorem q12_faultPlace_atX (v : BX12) (x : Int32) : pX12_faultPlace (sX12_atX v x) = pX12_faultPlace v := rfl
theorem q12_at_atX (v : BX12) (x : Int32) : pX12_at (sX12_atX v x) = pX12_at v := rfl
theorem q12_place_atX (v : BX12) (x : Int32) : pX12_place (sX12_atX v x) = pX12_place v := rfl
theorem q12_token_atX (v : BX12) (x : Int32) : pX12_token (sX12_atX v x) = pX12_token v := rfl
theorem q12_number_atX (v : BX12) (x : Int32) : pX12_number (sX12_atX v x) = pX12_number v := rfl
theorem q12_word_atX (v : BX12) (x : Int32) : pX12_word (sX12_atX v x) = pX12_word v := rfl
theorem q12_text0_atX (v : BX12) (x : Int32) : pX12_text0 (sX12_atX v x) = pX12_text0 v := rfl
theorem q12_clauses_atX (v : BX12) (x : Int32) : pX12_clauses (sX12_atX v x) = pX12_clauses v := rfl
theorem q12_written_atX (v : BX12) (x : Int32) : pX12_written (sX12_atX v x) = pX12_written v := rfl
theorem q12_came_atX (v : BX12) (x : Int32) : pX12_came (sX12_atX v x) = pX12_came v := rfl
theorem q12_letters_atX (v : BX12) (x : Int32) : pX12_letters (sX12_atX v x) = pX12_letters v := rfl
theorem q12_piled_atX (v : BX12) (x : Int32) : pX12_piled (sX12_atX v x) = pX12_piled v := rfl
theorem q12_opens_atX (v : BX12) (x : Int32) : pX12_opens (sX12_atX v x) = pX12_opens v := rfl
theorem q12_isWhole_atX (v : BX12) (x : Int32) : pX12_isWhole (sX12_atX v x) = pX12_isWhole v := rfl
theorem q12_bound_atX (v : BX12) (x : Int32) : pX12_bound (sX12_atX v x) = pX12_bound v := rfl
theorem q12_over_atX (v : BX12) (x : Int32) : pX12_over (sX12_atX v x) = pX12_over v := rfl
theorem q12_ticks_atX (v : BX12) (x : Int32) : pX12_ticks (sX12_atX v x) = pX12_ticks v := rfl
theorem q12_atX_atX (v : BX12) (x : Int32) : pX12_atX (sX12_atX v x) = x := rfl
theorem q12_atY_atX (v : BX12) (x : Int32) : pX12_atY (sX12_atX v x) = pX12_atY v := rfl
theorem q12_heading_atX (v : BX12) (x : Int32) : pX12_heading (sX12_atX v x) = pX12_heading v := rfl
theorem q12_hit_atX (v : BX12) (x : Int32) : pX12_hit (sX12_atX v x) = pX12_hit v := rfl
theorem q12_rested_atX (v : BX12) (x : Int32) : pX12_rested (sX12_atX v x) = pX12_rested v := rfl
theorem q12_now_atX (v : BX12) (x : Int32) : pX12_now (sX12_atX v x) = pX12_now v := rfl
theorem q12_turn_atX (v : BX12) (x : Int32) : pX12_turn (sX12_atX v x) = pX12_turn v := rfl
theorem q12_go_atX (v : BX12) (x : Int32) : pX12_go (sX12_atX v x) = pX12_go v := rfl
theorem q12_a_atX (v : BX12) (x : Int32) : pX12_a (sX12_atX v x) = pX12_a v := rfl
theorem q12_image_atX (v : BX12) (x : Int32) : pX12_image (sX12_atX v x) = pX12_image v := rfl
theorem q12_texts_atX (v : BX12) (x : Int32) : pX12_texts (sX12_atX v x) = pX12_texts v := rfl
theorem q12_board_atX (v : BX12) (x : Int32) : pX12_board (sX12_atX v x) = pX12_board v := rfl
theorem q12_taken_atX (v : BX12) (x : Int32) : pX12_taken (sX12_atX v x) = pX12_taken v := rfl
theorem q12_fars_atX (v : BX12) (x : Int32) : pX12_fars (sX12_atX v x) = pX12_fars v := rfl
theorem q12_before_atX (v : BX12) (x : Int32) : pX12_before (sX12_atX v x) = pX12_before v := rfl
theorem q12_tape_atX (v : BX12) (x : Int32) : pX12_tape (sX12_atX v x) = pX12_tape v := rfl
theorem q12_pile_atX (v : BX12) (x : Int32) : pX12_pile (sX12_atX v x) = pX12_pile v := rfl
theorem q12_rows_atX (v : BX12) (x : Int32) : pX12_rows (sX12_atX v x) = pX12_rows v := rfl
theorem q12_told_atX (v : BX12) (x : Int32) : pX12_told (sX12_atX v x) = pX12_told v := rfl
theorem q12_values_atX (v : BX12) (x : Int32) : pX12_values (sX12_atX v x) = pX12_values v := rfl
theorem q12_truth_atX (v : BX12) (x : Int32) : pX12_truth (sX12_atX v x) = pX12_truth v := rfl
theorem q12_keeps_atX (v : BX12) (x : Int32) : pX12_keeps (sX12_atX v x) = pX12_keeps v := rfl
theorem q12_w_atY (v : BX12) (x : Int32) : pX12_w (sX12_atY v x) = pX12_w v := rfl
theorem q12_h_atY (v : BX12) (x : Int32) : pX12_h (sX12_atY v x) = pX12_h v := rfl
theorem q12_taped_atY (v : BX12) (x : Int32) : pX12_taped (sX12_atY v x) = pX12_taped v := rfl
theorem q12_fault_atY (v : BX12) (x : Int32) : pX12_fault (sX12_atY v x) = pX12_fault v := rfl
theorem q12_faultPlace_atY (v : BX12) (x : Int32) : pX12_faultPlace (sX12_atY v x) = pX12_faultPlace v := rfl
theorem q12_at_atY (v : BX12) (x : Int32) : pX12_at (sX12_atY v x) = pX12_at v := rfl
theorem q12_place_atY (v : BX12) (x : Int32) : pX12_place (sX12_atY v x) = pX12_place v := rfl
theorem q12_token_atY (v : BX12) (x : Int32) : pX12_token (sX12_atY v x) = pX12_token v := rfl
theorem q12_number_atY (v : BX12) (x : Int32) : pX12_number (sX12_atY v x) = pX12_number v := rfl
theorem q12_word_atY (v : BX12) (x : Int32) : pX12_word (sX12_atY v x) = pX12_word v := rfl
theorem q12_text0_atY (v : BX12) (x : Int32) : pX12_text0 (sX12_atY v x) = pX12_text0 v := rfl
theorem q12_clauses_atY (v : BX12) (x : Int32) : pX12_clauses (sX12_atY v x) = pX12_clauses v := rfl
theorem q12_written_atY (v : BX12) (x : Int32) : pX12_written (sX12_atY v x) = pX12_written v := rfl
theorem q12_came_atY (v : BX12) (x : Int32) : pX12_came (sX12_atY v x) = pX12_came v := rfl
theorem q12_letters_atY (v : BX12) (x : Int32) : pX12_letters (sX12_atY v x) = pX12_letters v := rfl
theorem q12_piled_atY (v : BX12) (x : Int32) : pX12_piled (sX12_atY v x) = pX12_piled v := rfl
theorem q12_opens_atY (v : BX12) (x : Int32) : pX12_opens (sX12_atY v x) = pX12_opens v := rfl
theorem q12_isWhole_atY (v : BX12) (x : Int32) : pX12_isWhole (sX12_atY v x) = pX12_isWhole v := rfl
theorem q12_bound_atY (v : BX12) (x : Int32) : pX12_bound (sX12_atY v x) = pX12_bound v := rfl
theorem q12_over_atY (v : BX12) (x : Int32) : pX12_over (sX12_atY v x) = pX12_over v := rfl
theorem q12_ticks_atY (v : BX12) (x : Int32) : pX12_ticks (sX12_atY v x) = pX12_ticks v := rfl
theorem q12_atX_atY (v : BX12) (x : Int32) : pX12_atX (sX12_atY v x) = pX12_atX v := rfl
theorem q12_atY_atY (v : BX12) (x : Int32) : pX12_atY (sX12_atY v x) = x := rfl
theorem q12_heading_atY (v : BX12) (x : Int32) : pX12_heading (sX12_atY v x) = pX12_heading v := rfl
theorem q12_hit_atY (v : BX12) (x : Int32) : pX12_hit (sX12_atY v x) = pX12_hit v := rfl
theorem q12_rested_atY (v : BX12) (x : Int32) : pX12_rested (sX12_atY v x) = pX12_rested v := rfl
theorem q12_now_atY (v : BX12) (x : Int32) : pX12_now (sX12_atY v x) = pX12_now v := rfl
theorem q12_turn_atY (v : BX12) (x : Int32) : pX12_turn (sX12_atY v x) = pX12_turn v := rfl
theorem q12_go_atY (v : BX12) (x : Int32) : pX12_go (sX12_atY v x) = pX12_go v := rfl
theorem q12_a_atY (v : BX12) (x : Int32) : pX12_a (sX12_atY v x) = pX12_a v := rfl
theorem q12_image_atY (v : BX12) (x : Int32) : pX12_image (sX12_atY v x) = pX12_image v := rfl
theorem q12_texts_atY (v : BX12) (x : Int32) : pX12_texts (sX12_atY v x) = pX12_texts v := rfl
theorem q12_board_atY (v : BX12) (x : Int32) : pX12_board (sX12_atY v x) = pX12_board v := rfl
theorem q12_taken_atY (v : BX12) (x : Int32) : pX12_taken (sX12_atY v x) = pX12_taken v := rfl
theorem q12_fars_atY (v : BX12) (x : Int32) : pX12_fars (sX12_atY v x) = pX12_fars v := rfl
theorem q12_before_atY (v : BX12) (x : Int32) : pX12_before (sX12_atY v x) = pX12_before v := rfl
theorem q12_tape_atY (v : BX12) (x : Int32) : pX12_tape (sX12_atY v x) = pX12_tape v := rfl
theorem q12_pile_atY (v : BX12) (x : Int32) : pX12_pile (sX12_atY v x) = pX12_pile v := rfl
theorem q12_rows_atY (v : BX12) (x : Int32) : pX12_rows (sX12_atY v x) = pX12_rows v := rfl
theorem q12_told_atY (v : BX12) (x : Int32) : pX12_told (sX12_atY v x) = pX12_told v := rfl
theorem q12_values_atY (v : BX12) (x : Int32) : pX12_values (sX12_atY v x) = pX12_values v := rfl
theorem q12_truth_atY (v : BX12) (x : Int32) : pX12_truth (sX12_atY v x) = pX12_truth v := rfl
theorem q12_keeps_atY (v : BX12) (x : Int32) : pX12_keeps (sX12_atY v x) = pX12_keeps v := rfl
theorem q12_w_heading (v : BX12) (x : Int32) : pX12_w (sX12_heading v x) = pX12_w v := rfl
theorem q12_h_heading (v : BX12) (x : Int32) : pX12_h (sX12_heading v x) = pX12_h v := rfl
theorem q12_taped_heading (v : BX12) (x : Int32) : pX12_taped (sX12_heading v x) = pX12_taped v := rfl
theorem q12_fault_heading (v : BX12) (x : Int32) : pX12_fault (sX12_heading v x) = pX12_fault v := rfl
theorem q12_faultPlace_heading (v : BX12) (x : Int32) : pX12_faultPlace (sX12_heading v x) = pX12_faultPlace v := rfl
theorem q12_at_heading (v : BX12) (x : Int32) : pX12_at (sX12_heading v x) = pX12_at v := rfl
theorem q12_place_heading (v : BX12) (x : Int32) : pX12_place (sX12_heading v x) = pX12_place v := rfl
theorem q12_token_heading (v : BX12) (x : Int32) : pX12_token (sX12_heading v x) = pX12_token v := rfl
theorem q12_number_heading (v : BX12) (x : Int32) : pX12_number (sX12_heading v x) = pX12_number v := rfl
theorem q12_word_heading (v : BX12) (x : Int32) : pX12_word (sX12_heading v x) = pX12_word v := rfl
theorem q12_text0_heading (v : BX12) (x : Int32) : pX12_text0 (sX12_heading v x) = pX12_text0 v := rfl
theorem q12_clauses_heading (v : BX12) (x : Int32) : pX12_clauses (sX12_heading v x) = pX12_clauses v := rfl
theorem q12_written_heading (v : BX12) (x : Int32) : pX12_written (sX12_heading v x) = pX12_written v := rfl
theorem q12_came_heading (v : BX12) (x : Int32) : pX12_came (sX12_heading v x) = pX12_came v := rfl
theorem q12_letters_heading (v : BX12) (x : Int32) : pX12_letters (sX12_heading v x) = pX12_letters v := rfl
theorem q12_piled_heading (v : BX12) (x : Int32) : pX12_piled (sX12_heading v x) = pX12_piled v := rfl
theorem q12_opens_heading (v : BX12) (x : Int32) : pX12_opens (sX12_heading v x) = pX12_opens v := rfl
theorem q12_isWhole_heading (v : BX12) (x : Int32) : pX12_isWhole (sX12_heading v x) = pX12_isWhole v := rfl
theorem q12_bound_heading (v : BX12) (x : Int32) : pX12_bound (sX12_heading v x) = pX12_bound v := rfl
theorem q12_over_heading (v : BX12) (x : Int32) : pX12_over (sX12_heading v x) = pX12_over v := rfl
theorem q12_ticks_heading (v : BX12) (x : Int32) : pX12_ticks (sX12_heading v x) = pX12_ticks v := rfl
theorem q12_atX_heading (v : BX12) (x : Int32) : pX12_atX (sX12_heading v x) = pX12_atX v := rfl
theorem q12_atY_heading (v : BX12) (x : Int32) : pX12_atY (sX12_heading v x) = pX12_atY v := rfl
theorem q12_heading_heading (v : BX12) (x : Int32) : pX12_heading (sX12_heading v x) = x := rfl
theorem q12_hit_heading (v : BX12) (x : Int32) : pX12_hit (sX12_heading v x) = pX12_hit v := rfl
theorem q12_rested_heading (v : BX12) (x : Int32) : pX12_rested (sX12_heading v x) = pX12_rested v := rfl
theorem q12_now_heading (v : BX12) (x : Int32) : pX12_now (sX12_heading v x) = pX12_now v := rfl
theorem q12_turn_heading (v : BX12) (x : Int32) : pX12_turn (sX12_heading v x) = pX12_turn v := rfl
theorem q12_go_heading (v : BX12) (x : Int32) : pX12_go (sX12_heading v x) = pX12_go v := rfl
theorem q12_a_heading (v : BX12) (x : Int32) : pX12_a (sX12_heading v x) = pX12_a v := rfl
theorem q12_image_heading (v : BX12) (x : Int32) : pX12_image (sX12_heading v x) = pX12_image v := rfl
theorem q12_texts_heading (v : BX12) (x : Int32) : pX12_texts (sX12_heading v x) = pX12_texts v := rfl
theorem q12_board_heading (v : BX12) (x : Int32) : pX12_board (sX12_heading v x) = pX12_board v := rfl
theorem q12_taken_heading (v : BX12) (x : Int32) : pX12_taken (sX12_heading v x) = pX12_taken v := rfl
theorem q12_fars_heading (v : BX12) (x : Int32) : pX12_fars (sX12_heading v x) = pX12_fars v := rfl
theorem q12_before_heading (v : BX12) (x : Int32) : pX12_before (sX12_heading v x) = pX12_before v := rfl
theorem q12_tape_heading (v : BX12) (x : Int32) : pX12_tape (sX12_heading v x) = pX12_tape v := rfl
theorem q12_pile_heading (v : BX12) (x : Int32) : pX12_pile (sX12_heading v x) = pX12_pile v := rfl
theorem q12_rows_heading (v : BX12) (x : Int32) : pX12_rows (sX12_heading v x) = pX12_rows v := rfl
theorem q12_told_heading (v : BX12) (x : Int32) : pX12_told (sX12_heading v x) = pX12_told v := rfl
theorem q12_values_heading (v : BX12) (x : Int32) : pX12_values (sX12_heading v x) = pX12_values v := rfl
theorem q12_truth_heading (v : BX12) (x : Int32) : pX12_truth (sX12_heading v x) = pX12_truth v := rfl
theorem q12_keeps_heading (v : BX12) (x : Int32) : pX12_keeps (sX12_heading v x) = pX12_keeps v := rfl
theorem q12_w_hit (v : BX12) (x : Int32) : pX12_w (sX12_hit v x) = pX12_w v := rfl
theorem q12_h_hit (v : BX12) (x : Int32) : pX12_h (sX12_hit v x) = pX12_h v := rfl
theorem q12_taped_hit (v : BX12) (x : Int32) : pX12_taped (sX12_hit v x) = pX12_taped v := rfl
theorem q12_fault_hit (v : BX12) (x : Int32) : pX12_fault (sX12_hit v x) = pX12_fault v := rfl
theorem q12_faultPlace_hit (v : BX12) (x : Int32) : pX12_faultPlace (sX12_hit v x) = pX12_faultPlace v := rfl
theorem q12_at_hit (v : BX12) (x : Int32) : pX12_at (sX12_hit v x) = pX12_at v := rfl
theorem q12_place_hit (v : BX12) (x : Int32) : pX12_place (sX12_hit v x) = pX12_place v := rfl
theorem q12_token_hit (v : BX12) (x : Int32) : pX12_token (sX12_hit v x) = pX12_token v := rfl
theorem q12_number_hit (v : BX12) (x : Int32) : pX12_number (sX12_hit v x) = pX12_number v := rfl
theorem q12_word_hit (v : BX12) (x : Int32) : pX12_word (sX12_hit v x) = pX12_word v := rfl
theorem q12_text0_hit (v : BX12) (x : Int32) : pX12_text0 (sX12_hit v x) = pX12_text0 v := rfl
theorem q12_clauses_hit (v : BX12) (x : Int32) : pX12_clauses (sX12_hit v x) = pX12_clauses v := rfl
theorem q12_written_hit (v : BX12) (x : Int32) : pX12_written (sX12_hit v x) = pX12_written v := rfl
theorem q12_came_hit (v : BX12) (x : Int32) : pX12_came (sX12_hit v x) = pX12_came v := rfl
theorem q12_letters_hit (v : BX12) (x : Int32) : pX12_letters (sX12_hit v x) = pX12_letters v := rfl
theorem q12_piled_hit (v : BX12) (x : Int32) : pX12_piled (sX12_hit v x) = pX12_piled v := rfl
theorem q12_opens_hit (v : BX12) (x : Int32) : pX12_opens (sX12_hit v x) = pX12_opens v := rfl
theorem q12_isWhole_hit (v : BX12) (x : Int32) : pX12_isWhole (sX12_hit v x) = pX12_isWhole v := rfl
theorem q12_bound_hit (v : BX12) (x : Int32) : pX12_bound (sX12_hit v x) = pX12_bound v := rfl
theorem q12_over_hit (v : BX12) (x : Int32) : pX12_over (sX12_hit v x) = pX12_over v := rfl
theorem q12_ticks_hit (v : BX12) (x : Int32) : pX12_ticks (sX12_hit v x) = pX12_ticks v := rfl
theorem q12_atX_hit (v : BX12) (x : Int32) : pX12_atX (sX12_hit v x) = pX12_atX v := rfl
theorem q12_atY_hit (v : BX12) (x : Int32) : pX12_atY (sX12_hit v x) = pX12_atY v := rfl
theorem q12_heading_hit (v : BX12) (x : Int32) : pX12_heading (sX12_hit v x) = pX12_heading v := rfl
theorem q12_hit_hit (v : BX12) (x : Int32) : pX12_hit (sX12_hit v x) = x := rfl
theorem q12_rested_hit (v : BX12) (x : Int32) : pX12_rested (sX12_hit v x) = pX12_rested v := rfl
theorem q12_now_hit (v : BX12) (x : Int32) : pX12_now (sX12_hit v x) = pX12_now v := rfl
theorem q12_turn_hit (v : BX12) (x : Int32) : pX12_turn (sX12_hit v x) = pX12_turn v := rfl
theorem q12_go_hit (v : BX12) (x : Int32) : pX12_go (sX12_hit v x) = pX12_go v := rfl
theorem q12_a_hit (v : BX12) (x : Int32) : pX12_a (sX12_hit v x) = pX12_a v := rfl
theorem q12_image_hit (v : BX12) (x : Int32) : pX12_image (sX12_hit v x) = pX12_image v := rfl
theorem q12_texts_hit (v : BX12) (x : Int32) : pX12_texts (sX12_hit v x) = pX12_texts v := rfl
theorem q12_board_hit (v : BX12) (x : Int32) : pX12_board (sX12_hit v x) = pX12_board v := rfl
theorem q12_taken_hit (v : BX12) (x : Int32) : pX12_taken (sX12_hit v x) = pX12_taken v := rfl
theorem q12_fars_hit (v : BX12) (x : Int32) : pX12_fars (sX12_hit v x) = pX12_fars v := rfl
theorem q12_before_hit (v : BX12) (x : Int32) : pX12_before (sX12_hit v x) = pX12_before v := rfl
theorem q12_tape_hit (v : BX12) (x : Int32) : pX12_tape (sX12_hit v x) = pX12_tape v := rfl
theorem q12_pile_hit (v : BX12) (x : Int32) : pX12_pile (sX12_hit v x) = pX12_pile v := rfl
theorem q12_rows_hit (v : BX12) (x : Int32) : pX12_rows (sX12_hit v x) = pX12_rows v := rfl
theorem q12_told_hit (v : BX12) (x : Int32) : pX12_told (sX12_hit v x) = pX12_told v := rfl
theorem q12_values_hit (v : BX12) (x : Int32) : pX12_values (sX12_hit v x) = pX12_values v := rfl
theorem q12_truth_hit (v : BX12) (x : Int32) : pX12_truth (sX12_hit v x) = pX12_truth v := rfl
theorem q12_keeps_hit (v : BX12) (x : Int32) : pX12_keeps (sX12_hit v x) = pX12_keeps v := rfl
theorem q12_w_rested (v : BX12) (x : Int32) : pX12_w (sX12_rested v x) = pX12_w v := rfl
theorem q12_h_rested (v : BX12) (x : Int32) : pX12_h (sX12_rested v x) = pX12_h v := rfl
theorem q12_taped_rested (v : BX12) (x : Int32) : pX12_taped (sX12_rested v x) = pX12_taped v := rfl
theorem q12_fault_rested (v : BX12) (x : Int32) : pX12_fault (sX12_rested v x) = pX12_fault v := rfl
theorem q12_faultPlace_rested (v : BX12) (x : Int32) : pX12_faultPlace (sX12_rested v x) = pX12_faultPlace v := rfl
theorem q12_at_rested (v : BX12) (x : Int32) : pX12_at (sX12_rested v x) = pX12_at v := rfl
theorem q12_place_rested (v : BX12) (x : Int32) : pX12_place (sX12_rested v x) = pX12_place v := rfl
theorem q12_token_rested (v : BX12) (x : Int32) : pX12_token (sX12_rested v x) = pX12_token v := rfl
theorem q12_number_rested (v : BX12) (x : Int32) : pX12_number (sX12_rested v x) = pX12_number v := rfl
theorem q12_word_rested (v : BX12) (x : Int32) : pX12_word (sX12_rested v x) = pX12_word v := rfl
theorem q12_text0_rested (v : BX12) (x : Int32) : pX12_text0 (sX12_rested v x) = pX12_text0 v := rfl
theorem q12_clauses_rested (v : BX12) (x : Int32) : pX12_clauses (sX12_rested v x) = pX12_clauses v := rfl
theorem q12_written_rested (v : BX12) (x : Int32) : pX12_written (sX12_rested v x) = pX12_written v := rfl
theorem q12_came_rested (v : BX12) (x : Int32) : pX12_came (sX12_rested v x) = pX12_came v := rfl
theorem q12_letters_rested (v : BX12) (x : Int32) : pX12_letters (sX12_rested v x) = pX12_letters v := rfl
theorem q12_piled_rested (v : BX12) (x : Int32) : pX12_piled (sX12_rested v x) = pX12_piled v := rfl
theorem q12_opens_rested (v : BX12) (x : Int32) : pX12_opens (sX12_rested v x) = pX12_opens v := rfl
theorem q12_isWhole_rested (v : BX12) (x : Int32) : pX12_isWhole (sX12_rested v x) = pX12_isWhole v := rfl
theorem q12_bound_rested (v : BX12) (x : Int32) : pX12_bound (sX12_rested v x) = pX12_bound v := rfl
theorem q12_over_rested (v : BX12) (x : Int32) : pX12_over (sX12_rested v x) = pX12_over v := rfl
theorem q12_ticks_rested (v : BX12) (x : Int32) : pX12_ticks (sX12_rested v x) = pX12_ticks v := rfl
theorem q12_atX_rested (v : BX12) (x : Int32) : pX12_atX (sX12_rested v x) = pX12_atX v := rfl
theorem q12_atY_rested (v : BX12) (x : Int32) : pX12_atY (sX12_rested v x) = pX12_atY v := rfl
theorem q12_heading_rested (v : BX12) (x : Int32) : pX12_heading (sX12_rested v x) = pX12_heading v := rfl
theorem q12_hit_rested (v : BX12) (x : Int32) : pX12_hit (sX12_rested v x) = pX12_hit v := rfl
theorem q12_rested_rested (v : BX12) (x : Int32) : pX12_rested (sX12_rested v x) = x := rfl
theorem q12_now_rested (v : BX12) (x : Int32) : pX12_now (sX12_rested v x) = pX12_now v := rfl
theorem q12_turn_rested (v : BX12) (x : Int32) : pX12_turn (sX12_rested v x) = pX12_turn v := rfl
theorem q12_go_rested (v : BX12) (x : Int32) : pX12_go (sX12_rested v x) = pX12_go v := rfl
theorem q12_a_rested (v : BX12) (x : Int32) : pX12_a (sX12_rested v x) = pX12_a v := rfl
theorem q12_image_rested (v : BX12) (x : Int32) : pX12_image (sX12_rested v x) = pX12_image v := rfl
theorem q12_texts_rested (v : BX12) (x : Int32) : pX12_texts (sX12_rested v x) = pX12_texts v := rfl
theorem q12_board_rested (v : BX12) (x : Int32) : pX12_board (sX12_rested v x) = pX12_board v := rfl
theorem q12_taken_rested (v : BX12) (x : Int32) : pX12_taken (sX12_rested v x) = pX12_taken v := rfl
theorem q12_fars_rested (v : BX12) (x : Int32) : pX12_fars (sX12_rested v x) = pX12_fars v := rfl
theorem q12_before_rested (v : BX12) (x : Int32) : pX12_before (sX12_rested v x) = pX12_before v := rfl
theorem q12_tape_rested (v : BX12) (x : Int32) : pX12_tape (sX12_rested v x) = pX12_tape v := rfl
theorem q12_pile_rested (v : BX12) (x : Int32) : pX12_pile (sX12_rested v x) = pX12_pile v := rfl
theorem q12_rows_rested (v : BX12) (x : Int32) : pX12_rows (sX12_rested v x) = pX12_rows v := rfl
theorem q12_told_rested (v : BX12) (x : Int32) : pX12_told (sX12_rested v x) = pX12_told v := rfl
theorem q12_values_rested (v : BX12) (x : Int32) : pX12_values (sX12_rested v x) = pX12_values v := rfl
theorem q12_truth_rested (v : BX12) (x : Int32) : pX12_truth (sX12_rested v x) = pX12_truth v := rfl
theorem q12_keeps_rested (v : BX12) (x : Int32) : pX12_keeps (sX12_rested v x) = pX12_keeps v := rfl
theorem q12_w_now (v : BX12) (x : Int32) : pX12_w (sX12_now v x) = pX12_w v := rfl
theorem q12_h_now (v : BX12) (x : Int32) : pX12_h (sX12_now v x) = pX12_h v := rfl
theorem q12_taped_now (v : BX12) (x : Int32) : pX12_taped (sX12_now v x) = pX12_taped v := rfl
theorem q12_fault_now (v : BX12) (x : Int32) : pX12_fault (sX12_now v x) = pX12_fault v := rfl
theorem q12_faultPlace_now (v : BX12) (x : Int32) : pX12_faultPlace (sX12_now v x) = pX12_faultPlace v := rfl
theorem q12_at_now (v : BX12) (x : Int32) : pX12_at (sX12_now v x) = pX12_at v := rfl
theorem q12_place_now (v : BX12) (x : Int32) : pX12_place (sX12_now v x) = pX12_place v := rfl
theorem q12_token_now (v : BX12) (x : Int32) : pX12_token (sX12_now v x) = pX12_token v := rfl
theorem q12_number_now (v : BX12) (x : Int32) : pX12_number (sX12_now v x) = pX12_number v := rfl
theorem q12_word_now (v : BX12) (x : Int32) : pX12_word (sX12_now v x) = pX12_word v := rfl
theorem q12_text0_now (v : BX12) (x : Int32) : pX12_text0 (sX12_now v x) = pX12_text0 v := rfl
theorem q12_clauses_now (v : BX12) (x : Int32) : pX12_clauses (sX12_now v x) = pX12_clauses v := rfl
theorem q12_written_now (v : BX12) (x : Int32) : pX12_written (sX12_now v x) = pX12_written v := rfl
theorem q12_came_now (v : BX12) (x : Int32) : pX12_came (sX12_now v x) = pX12_came v := rfl
theorem q12_letters_now (v : BX12) (x : Int32) : pX12_letters (sX12_now v x) = pX12_letters v := rfl
theorem q12_piled_now (v : BX12) (x : Int32) : pX12_piled (sX12_now v x) = pX12_piled v := rfl
theorem q12_opens_now (v : BX12) (x : Int32) : pX12_opens (sX12_now v x) = pX12_opens v := rfl
theorem q12_isWhole_now (v : BX12) (x : Int32) : pX12_isWhole (sX12_now v x) = pX12_isWhole v := rfl
theorem q12_bound_now (v : BX12) (x : Int32) : pX12_bound (sX12_now v x) = pX12_bound v := rfl
theorem q12_over_now (v : BX12) (x : Int32) : pX12_over (sX12_now v x) = pX12_over v := rfl
theorem q12_ticks_now (v : BX12) (x : Int32) : pX12_ticks (sX12_now v x) = pX12_ticks v := rfl
theorem q12_atX_now (v : BX12) (x : Int32) : pX12_atX (sX12_now v x) = pX12_atX v := rfl
theorem q12_atY_now (v : BX12) (x : Int32) : pX12_atY (sX12_now v x) = pX12_atY v := rfl
theorem q12_heading_now (v : BX12) (x : Int32) : pX12_heading (sX12_now v x) = pX12_heading v := rfl
theorem q12_hit_now (v : BX12) (x : Int32) : pX12_hit (sX12_now v x) = pX12_hit v := rfl
theorem q12_rested_now (v : BX12) (x : Int32) : pX12_rested (sX12_now v x) = pX12_rested v := rfl
theorem q12_now_now (v : BX12) (x : Int32) : pX12_now (sX12_now v x) = x := rfl
theorem q12_turn_now (v : BX12) (x : Int32) : pX12_turn (sX12_now v x) = pX12_turn v := rfl
theorem q12_go_now (v : BX12) (x : Int32) : pX12_go (sX12_now v x) = pX12_go v := rfl
theorem q12_a_now (v : BX12) (x : Int32) : pX12_a (sX12_now v x) = pX12_a v := rfl
theorem q12_image_now (v : BX12) (x : Int32) : pX12_image (sX12_now v x) = pX12_image v := rfl
theorem q12_texts_now (v : BX12) (x : Int32) : pX12_texts (sX12_now v x) = pX12_texts v := rfl
theorem q12_board_now (v : BX12) (x : Int32) : pX12_board (sX12_now v x) = pX12_board v := rfl
theorem q12_taken_now (v : BX12) (x : Int32) : pX12_taken (sX12_now v x) = pX12_taken v := rfl
theorem q12_fars_now (v : BX12) (x : Int32) : pX12_fars (sX12_now v x) = pX12_fars v := rfl
theorem q12_before_now (v : BX12) (x : Int32) : pX12_before (sX12_now v x) = pX12_before v := rfl
theorem q12_tape_now (v : BX12) (x : Int32) : pX12_tape (sX12_now v x) = pX12_tape v := rfl
theorem q12_pile_now (v : BX12) (x : Int32) : pX12_pile (sX12_now v x) = pX12_pile v := rfl
theorem q12_rows_now (v : BX12) (x : Int32) : pX12_rows (sX12_now v x) = pX12_rows v := rfl
theorem q12_told_now (v : BX12) (x : Int32) : pX12_told (sX12_now v x) = pX12_told v := rfl
theorem q12_values_now (v : BX12) (x : Int32) : pX12_values (sX12_now v x) = pX12_values v := rfl
theorem q12_truth_now (v : BX12) (x : Int32) : pX12_truth (sX12_now v x) = pX12_truth v := rfl
theorem q12_keeps_now (v : BX12) (x : Int32) : pX12_keeps (sX12_now v x) = pX12_keeps v := rfl
theorem q12_w_turn (v : BX12) (x : Int32) : pX12_w (sX12_turn v x) = pX12_w v := rfl
theorem q12_h_turn (v : BX12) (x : Int32) : pX12_h (sX12_turn v x) = pX12_h v := rfl
theorem q12_taped_turn (v : BX12) (x : Int32) : pX12_taped (sX12_turn v x) = pX12_taped v := rfl
theorem q12_fault_turn (v : BX12) (x : Int32) : pX12_fault (sX12_turn v x) = pX12_fault v := rfl
theorem q12_faultPlace_turn (v : BX12) (x : Int32) : pX12_faultPlace (sX12_turn v x) = pX12_faultPlace v := rfl
theorem q12_at_turn (v : BX12) (x : Int32) : pX12_at (sX12_turn v x) = pX12_at v := rfl
theorem q12_place_turn (v : BX12) (x : Int32) : pX12_place (sX12_turn v x) = pX12_place v := rfl
theorem q12_token_turn (v : BX12) (x : Int32) : pX12_token (sX12_turn v x) = pX12_token v := rfl
theorem q12_number_turn (v : BX12) (x : Int32) : pX12_number (sX12_turn v x) = pX12_number v := rfl
theorem q12_word_turn (v : BX12) (x : Int32) : pX12_word (sX12_turn v x) = pX12_word v := rfl
theorem q12_text0_turn (v : BX12) (x : Int32) : pX12_text0 (sX12_turn v x) = pX12_text0 v := rfl
theorem q12_clauses_turn (v : BX12) (x : Int32) : pX12_clauses (sX12_turn v x) = pX12_clauses v := rfl
theorem q12_written_turn (v : BX12) (x : Int32) : pX12_written (sX12_turn v x) = pX12_written v := rfl
theorem q12_came_turn (v : BX12) (x : Int32) : pX12_came (sX12_turn v x) = pX12_came v := rfl
theorem q12_letters_turn (v : BX12) (x : Int32) : pX12_letters (sX12_turn v x) = pX12_letters v := rfl
theorem q12_piled_turn (v : BX12) (x : Int32) : pX12_piled (sX12_turn v x) = pX12_piled v := rfl
theorem q12_opens_turn (v : BX12) (x : Int32) : pX12_opens (sX12_turn v x) = pX12_opens v := rfl
theorem q12_isWhole_turn (v : BX12) (x : Int32) : pX12_isWhole (sX12_turn v x) = pX12_isWhole v := rfl
theorem q12_bound_turn (v : BX12) (x : Int32) : pX12_bound (sX12_turn v x) = pX12_bound v := rfl
theorem q12_over_turn (v : BX12) (x : Int32) : pX12_over (sX12_turn v x) = pX12_over v := rfl
theorem q12_ticks_turn (v : BX12) (x : Int32) : pX12_ticks (sX12_turn v x) = pX12_ticks v := rfl
theorem q12_atX_turn (v : BX12) (x : Int32) : pX12_atX (sX12_turn v x) = pX12_atX v := rfl
theorem q12_atY_turn (v : BX12) (x : Int32) : pX12_atY (sX12_turn v x) = pX12_atY v := rfl
theorem q12_heading_turn (v : BX12) (x : Int32) : pX12_heading (sX12_turn v x) = pX12_heading v := rfl
theorem q12_hit_turn (v : BX12) (x : Int32) : pX12_hit (sX12_turn v x) = pX12_hit v := rfl
theorem q12_rested_turn (v : BX12) (x : Int32) : pX12_rested (sX12_turn v x) = pX12_rested v := rfl
theorem q12_now_turn (v : BX12) (x : Int32) : pX12_now (sX12_turn v x) = pX12_now v := rfl
theorem q12_turn_turn (v : BX12) (x : Int32) : pX12_turn (sX12_turn v x) = x := rfl
theorem q12_go_turn (v : BX12) (x : Int32) : pX12_go (sX12_turn v x) = pX12_go v := rfl
theorem q12_a_turn (v : BX12) (x : Int32) : pX12_a (sX12_turn v x) = pX12_a v := rfl
theorem q12_image_turn (v : BX12) (x : Int32) : pX12_image (sX12_turn v x) = pX12_image v := rfl
theorem q12_texts_turn (v : BX12) (x : Int32) : pX12_texts (sX12_turn v x) = pX12_texts v := rfl
theorem q12_board_turn (v : BX12) (x : Int32) : pX12_board (sX12_turn v x) = pX12_board v := rfl
theorem q12_taken_turn (v : BX12) (x : Int32) : pX12_taken (sX12_turn v x) = pX12_taken v := rfl
theorem q12_fars_turn (v : BX12) (x : Int32) : pX12_fars (sX12_turn v x) = pX12_fars v := rfl
theorem q12_before_turn (v : BX12) (x : Int32) : pX12_before (sX12_turn v x) = pX12_before v := rfl
theorem q12_tape_turn (v : BX12) (x : Int32) : pX12_tape (sX12_turn v x) = pX12_tape v := rfl
theorem q12_pile_turn (v : BX12) (x : Int32) : pX12_pile (sX12_turn v x) = pX12_pile v := rfl
theorem q12_rows_turn (v : BX12) (x : Int32) : pX12_rows (sX12_turn v x) = pX12_rows v := rfl
theorem q12_told_turn (v : BX12) (x : Int32) : pX12_told (sX12_turn v x) = pX12_told v := rfl
theorem q12_values_turn (v : BX12) (x : Int32) : pX12_values (sX12_turn v x) = pX12_values v := rfl
theorem q12_truth_turn (v : BX12) (x : Int32) : pX12_truth (sX12_turn v x) = pX12_truth v := rfl
theorem q12_keeps_turn (v : BX12) (x : Int32) : pX12_keeps (sX12_turn v x) = pX12_keeps v := rfl
theorem q12_w_go (v : BX12) (x : Int32) : pX12_w (sX12_go v x) = pX12_w v := rfl
theorem q12_h_go (v : BX12) (x : Int32) : pX12_h (sX12_go v x) = pX12_h v := rfl
theorem q12_taped_go (v : BX12) (x : Int32) : pX12_taped (sX12_go v x) = pX12_taped v := rfl
theorem q12_fault_go (v : BX12) (x : Int32) : pX12_fault (sX12_go v x) = pX12_fault v := rfl
theorem q12_faultPlace_go (v : BX12) (x : Int32) : pX12_faultPlace (sX12_go v x) = pX12_faultPlace v := rfl
theorem q12_at_go (v : BX12) (x : Int32) : pX12_at (sX12_go v x) = pX12_at v := rfl
theorem q12_place_go (v : BX12) (x : Int32) : pX12_place (sX12_go v x) = pX12_place v := rfl
theorem q12_token_go (v : BX12) (x : Int32) : pX12_token (sX12_go v x) = pX12_token v := rfl
theorem q12_number_go (v : BX12) (x : Int32) : pX12_number (sX12_go v x) = pX12_number v := rfl
theorem q12_word_go (v : BX12) (x : Int32) : pX12_word (sX12_go v x) = pX12_word v := rfl
theorem q12_text0_go (v : BX12) (x : Int32) : pX12_text0 (sX12_go v x) = pX12_text0 v := rfl
theorem q12_clauses_go (v : BX12) (x : Int32) : pX12_clauses (sX12_go v x) = pX12_clauses v := rfl
theorem q12_written_go (v : BX12) (x : Int32) : pX12_written (sX12_go v x) = pX12_written v := rfl
theorem q12_came_go (v : BX12) (x : Int32) : pX12_came (sX12_go v x) = pX12_came v := rfl
theorem q12_letters_go (v : BX12) (x : Int32) : pX12_letters (sX12_go v x) = pX12_letters v := rfl
theorem q12_piled_go (v : BX12) (x : Int32) : pX12_piled (sX12_go v x) = pX12_piled v := rfl
theorem q12_opens_go (v : BX12) (x : Int32) : pX12_opens (sX12_go v x) = pX12_opens v := rfl
theorem q12_isWhole_go (v : BX12) (x : Int32) : pX12_isWhole (sX12_go v x) = pX12_isWhole v := rfl
theorem q12_bound_go (v : BX12) (x : Int32) : pX12_bound (sX12_go v x) = pX12_bound v := rfl
theorem q12_over_go (v : BX12) (x : Int32) : pX12_over (sX12_go v x) = pX12_over v := rfl
theorem q12_ticks_go (v : BX12) (x : Int32) : pX12_ticks (sX12_go v x) = pX12_ticks v := rfl
theorem q12_atX_go (v : BX12) (x : Int32) : pX12_atX (sX12_go v x) = pX12_atX v := rfl
theorem q12_atY_go (v : BX12) (x : Int32) : pX12_atY (sX12_go v x) = pX12_atY v := rfl
theorem q12_heading_go (v : BX12) (x : Int32) : pX12_heading (sX12_go v x) = pX12_heading v := rfl
theorem q12_hit_go (v : BX12) (x : Int32) : pX12_hit (sX12_go v x) = pX12_hit v := rfl
theorem q12_rested_go (v : BX12) (x : Int32) : pX12_rested (sX12_go v x) = pX12_rested v := rfl
theorem q12_now_go (v : BX12) (x : Int32) : pX12_now (sX12_go v x) = pX12_now v := rfl
theorem q12_turn_go (v : BX12) (x : Int32) : pX12_turn (sX12_go v x) = pX12_turn v := rfl
theorem q12_go_go (v : BX12) (x : Int32) : pX12_go (sX12_go v x) = x := rfl
theorem q12_a_go (v : BX12) (x : Int32) : pX12_a (sX12_go v x) = pX12_a v := rfl
theorem q12_image_go (v : BX12) (x : Int32) : pX12_image (sX12_go v x) = pX12_image v := rfl
theorem q12_texts_go (v : BX12) (x : Int32) : pX12_texts (sX12_go v x) = pX12_texts v := rfl
theorem q12_board_go (v : BX12) (x : Int32) : pX12_board (sX12_go v x) = pX12_board v := rfl
theorem q12_taken_go (v : BX12) (x : Int32) : pX12_taken (sX12_go v x) = pX12_taken v := rfl
theorem q12_fars_go (v : BX12) (x : Int32) : pX12_fars (sX12_go v x) = pX12_fars v := rfl
theorem q12_before_go (v : BX12) (x : Int32) : pX12_before (sX12_go v x) = pX12_before v := rfl
theorem q12_tape_go (v : BX12) (x : Int32) : pX12_tape (sX12_go v x) = pX12_tape v := rfl
theorem q12_pile_go (v : BX12) (x : Int32) : pX12_pile (sX12_go v x) = pX12_pile v := rfl
theorem q12_rows_go (v : BX12) (x : Int32) : pX12_rows (sX12_go v x) = pX12_rows v := rfl
theorem q12_told_go (v : BX12) (x : Int32) : pX12_told (sX12_go v x) = pX12_told v := rfl
theorem q12_values_go (v : BX12) (x : Int32) : pX12_values (sX12_go v x) = pX12_values v := rfl
theorem q12_truth_go (v : BX12) (x : Int32) : pX12_truth (sX12_go v x) = pX12_truth v := rfl
theorem q12_keeps_go (v : BX12) (x : Int32) : pX12_keeps (sX12_go v x) = pX12_keeps v := rfl
theorem q12_w_a (v : BX12) (x : (Nat → Int32)) : pX12_w (sX12_a v x) = pX12_w v := rfl
theorem q12_h_a (v : BX12) (x : (Nat → Int32)) : pX12_h (sX12_a v x) = pX12_h v := rfl
theorem q12_taped_a (v : BX12) (x : (Nat → Int32)) : pX12_taped (sX12_a v x) = pX12_taped v := rfl
theorem q12_fault_a (v : BX12) (x : (Nat → Int32)) : pX12_fault (sX12_a v x) = pX12_fault v := rfl
theorem q12_faultPlace_a (v : BX12) (x : (Nat → Int32)) : pX12_faultPlace (sX12_a v x) = pX12_faultPlace v := rfl
theorem q12_at_a (v : BX12) (x : (Nat → Int32)) : pX12_at (sX12_a v x) = pX12_at v := rfl
theorem q12_place_a (v : BX12) (x : (Nat → Int32)) : pX12_place (sX12_a v x) = pX12_place v := rfl
theorem q12_token_a (v : BX12) (x : (Nat → Int32)) : pX12_token (sX12_a v x) = pX12_token v := rfl
theorem q12_number_a (v : BX12) (x : (Nat → Int32)) : pX12_number (sX12_a v x) = pX12_number v := rfl
theorem q12_word_a (v : BX12) (x : (Nat → Int32)) : pX12_word (sX12_a v x) = pX12_word v := rfl
theorem q12_text0_a (v : BX12) (x : (Nat → Int32)) : pX12_text0 (sX12_a v x) = pX12_text0 v := rfl
theorem q12_clauses_a (v : BX12) (x : (Nat → Int32)) : pX12_clauses (sX12_a v x) = pX12_clauses v := rfl
theorem q12_written_a (v : BX12) (x : (Nat → Int32)) : pX12_written (sX12_a v x) = pX12_written v := rfl
theorem q12_came_a (v : BX12) (x : (Nat → Int32)) : pX12_came (sX12_a v x) = pX12_came v := rfl
theorem q12_letters_a (v : BX12) (x : (Nat → Int32)) : pX12_letters (sX12_a v x) = pX12_letters v := rfl
theorem q12_piled_a (v : BX12) (x : (Nat → Int32)) : pX12_piled (sX12_a v x) = pX12_piled v := rfl
theorem q12_opens_a (v : BX12) (x : (Nat → Int32)) : pX12_opens (sX12_a v x) = pX12_opens v := rfl
theorem q12_isWhole_a (v : BX12) (x : (Nat → Int32)) : pX12_isWhole (sX12_a v x) = pX12_isWhole v := rfl
theorem q12_bound_a (v : BX12) (x : (Nat → Int32)) : pX12_bound (sX12_a v x) = pX12_bound v := rfl
theorem q12_over_a (v : BX12) (x : (Nat → Int32)) : pX12_over (sX12_a v x) = pX12_over v := rfl
theorem q12_ticks_a (v : BX12) (x : (Nat → Int32)) : pX12_ticks (sX12_a v x) = pX12_ticks v := rfl
theorem q12_atX_a (v : BX12) (x : (Nat → Int32)) : pX12_atX (sX12_a v x) = pX12_atX v := rfl
theorem q12_atY_a (v : BX12) (x : (Nat → Int32)) : pX12_atY (sX12_a v x) = pX12_atY v := rfl
theorem q12_heading_a (v : BX12) (x : (Nat → Int32)) : pX12_heading (sX12_a v x) = pX12_heading v := rfl
theorem q12_hit_a (v : BX12) (x : (Nat → Int32)) : pX12_hit (sX12_a v x) = pX12_hit v := rfl
theorem q12_rested_a (v : BX12) (x : (Nat → Int32)) : pX12_rested (sX12_a v x) = pX12_rested v := rfl
theorem q12_now_a (v : BX12) (x : (Nat → Int32)) : pX12_now (sX12_a v x) = pX12_now v := rfl
theorem q12_turn_a (v : BX12) (x : (Nat → Int32)) : pX12_turn (sX12_a v x) = pX12_turn v := rfl
theorem q12_go_a (v : BX12) (x : (Nat → Int32)) : pX12_go (sX12_a v x) = pX12_go v := rfl
theorem q12_a_a (v : BX12) (x : (Nat → Int32)) : pX12_a (sX12_a v x) = x := rfl
theorem q12_image_a (v : BX12) (x : (Nat → Int32)) : pX12_image (sX12_a v x) = pX12_image v := rfl
theorem q12_texts_a (v : BX12) (x : (Nat → Int32)) : pX12_texts (sX12_a v x) = pX12_texts v := rfl
theorem q12_board_a (v : BX12) (x : (Nat → Int32)) : pX12_board (sX12_a v x) = pX12_board v := rfl
theorem q12_taken_a (v : BX12) (x : (Nat → Int32)) : pX12_taken (sX12_a v x) = pX12_taken v := rfl
theorem q12_fars_a (v : BX12) (x : (Nat → Int32)) : pX12_fars (sX12_a v x) = pX12_fars v := rfl
theorem q12_before_a (v : BX12) (x : (Nat → Int32)) : pX12_before (sX12_a v x) = pX12_before v := rfl
theorem q12_tape_a (v : BX12) (x : (Nat → Int32)) : pX12_tape (sX12_a v x) = pX12_tape v := rfl
theorem q12_pile_a (v : BX12) (x : (Nat → Int32)) : pX12_pile (sX12_a v x) = pX12_pile v := rfl
theorem q12_rows_a (v : BX12) (x : (Nat → Int32)) : pX12_rows (sX12_a v x) = pX12_rows v := rfl
theorem q12_told_a (v : BX12) (x : (Nat → Int32)) : pX12_told (sX12_a v x) = pX12_told v := rfl
theorem q12_values_a (v : BX12) (x : (Nat → Int32)) : pX12_values (sX12_a v x) = pX12_values v := rfl
theorem q12_truth_a (v : BX12) (x : (Nat → Int32)) : pX12_truth (sX12_a v x) = pX12_truth v := rfl
theorem q12_keeps_a (v : BX12) (x : (Nat → Int32)) : pX12_keeps (sX12_a v x) = pX12_keeps v := rfl
theorem q12_w_image (v : BX12) (x : (Nat → Int32)) : pX12_w (sX12_image v x) = pX12_w v := rfl
theorem q12_h_image (v : BX12) (x : (Nat → Int32)) : pX12_h (sX12_image v x) = pX12_h v := rfl
theorem q12_taped_image (v : BX12) (x : (Nat → Int32)) : pX12_taped (sX12_image v x) = pX12_taped v := rfl
theorem q12_fault_image (v : BX12) (x : (Nat → Int32)) : pX12_fault (sX12_image v x) = pX12_fault v := rfl
theorem q12_faultPlace_image (v : BX12) (x : (Nat → Int32)) : pX12_faultPlace (sX12_image v x) = pX12_faultPlace v := rfl
theorem q12_at_image (v : BX12) (x : (Nat → Int32)) : pX12_at (sX12_image v x) = pX12_at v := rfl
theorem q12_place_image (v : BX12) (x : (Nat → Int32)) : pX12_place (sX12_image v x) = pX12_place v := rfl
theorem q12_token_image (v : BX12) (x : (Nat → Int32)) : pX12_token (sX12_image v x) = pX12_token v := rfl
theorem q12_number_image (v : BX12) (x : (Nat → Int32)) : pX12_number (sX12_image v x) = pX12_number v := rfl
theorem q12_word_image (v : BX12) (x : (Nat → Int32)) : pX12_word (sX12_image v x) = pX12_word v := rfl
theorem q12_text0_image (v : BX12) (x : (Nat → Int32)) : pX12_text0 (sX12_image v x) = pX12_text0 v := rfl
theorem q12_clauses_image (v : BX12) (x : (Nat → Int32)) : pX12_clauses (sX12_image v x) = pX12_clauses v := rfl
theorem q12_written_image (v : BX12) (x : (Nat → Int32)) : pX12_written (sX12_image v x) = pX12_written v := rfl
theorem q12_came_image (v : BX12) (x : (Nat → Int32)) : pX12_came (sX12_image v x) = pX12_came v := rfl
theorem q12_letters_image (v : BX12) (x : (Nat → Int32)) : pX12_letters (sX12_image v x) = pX12_letters v := rfl
theorem q12_piled_image (v : BX12) (x : (Nat → Int32)) : pX12_piled (sX12_image v x) = pX12_piled v := rfl
theorem q12_opens_image (v : BX12) (x : (Nat → Int32)) : pX12_opens (sX12_image v x) = pX12_opens v := rfl
theorem q12_isWhole_image (v : BX12) (x : (Nat → Int32)) : pX12_isWhole (sX12_image v x) = pX12_isWhole v := rfl
theorem q12_bound_image (v : BX12) (x : (Nat → Int32)) : pX12_bound (sX12_image v x) = pX12_bound v := rfl
theorem q12_over_image (v : BX12) (x : (Nat → Int32)) : pX12_over (sX12_image v x) = pX12_over v := rfl
theorem q12_ticks_image (v : BX12) (x : (Nat → Int32)) : pX12_ticks (sX12_image v x) = pX12_ticks v := rfl
theorem q12_atX_image (v : BX12) (x : (Nat → Int32)) : pX12_atX (sX12_image v x) = pX12_atX v := rfl
theorem q12_atY_image (v : BX12) (x : (Nat → Int32)) : pX12_atY (sX12_image v x) = pX12_atY v := rfl
theorem q12_heading_image (v : BX12) (x : (Nat → Int32)) : pX12_heading (sX12_image v x) = pX12_heading v := rfl
theorem q12_hit_image (v : BX12) (x : (Nat → Int32)) : pX12_hit (sX12_image v x) = pX12_hit v := rfl
theorem q12_rested_image (v : BX12) (x : (Nat → Int32)) : pX12_rested (sX12_image v x) = pX12_rested v := rfl
theorem q12_now_image (v : BX12) (x : (Nat → Int32)) : pX12_now (sX12_image v x) = pX12_now v := rfl
theorem q12_turn_image (v : BX12) (x : (Nat → Int32)) : pX12_turn (sX12_image v x) = pX12_turn v := rfl
theorem q12_go_image (v : BX12) (x : (Nat → Int32)) : pX12_go (sX12_image v x) = pX12_go v := rfl
theorem q12_a_image (v : BX12) (x : (Nat → Int32)) : pX12_a (sX12_image v x) = pX12_a v := rfl
theorem q12_image_image (v : BX12) (x : (Nat → Int32)) : pX12_image (sX12_image v x) = x := rfl
theorem q12_texts_image (v : BX12) (x : (Nat → Int32)) : pX12_texts (sX12_image v x) = pX12_texts v := rfl
theorem q12_board_image (v : BX12) (x : (Nat → Int32)) : pX12_board (sX12_image v x) = pX12_board v := rfl
theorem q12_taken_image (v : BX12) (x : (Nat → Int32)) : pX12_taken (sX12_image v x) = pX12_taken v := rfl
theorem q12_fars_image (v : BX12) (x : (Nat → Int32)) : pX12_fars (sX12_image v x) = pX12_fars v := rfl
theorem q12_before_image (v : BX12) (x : (Nat → Int32)) : pX12_before (sX12_image v x) = pX12_before v := rfl
theorem q12_tape_image (v : BX12) (x : (Nat → Int32)) : pX12_tape (sX12_image v x) = pX12_tape v := rfl
theorem q12_pile_image (v : BX12) (x : (Nat → Int32)) : pX12_pile (sX12_image v x) = pX12_pile v := rfl
theorem q12_rows_image (v : BX12) (x : (Nat → Int32)) : pX12_rows (sX12_image v x) = pX12_rows v := rfl
theorem q12_told_image (v : BX12) (x : (Nat → Int32)) : pX12_told (sX12_image v x) = pX12_told v := rfl
theorem q12_values_image (v : BX12) (x : (Nat → Int32)) : pX12_values (sX12_image v x) = pX12_values v := rfl
theorem q12_truth_image (v : BX12) (x : (Nat → Int32)) : pX12_truth (sX12_image v x) = pX12_truth v := rfl
theorem q12_keeps_image (v : BX12) (x : (Nat → Int32)) : pX12_keeps (sX12_image v x) = pX12_keeps v := rfl
theorem q12_w_texts (v : BX12) (x : (Nat → Int32)) : pX12_w (sX12_texts v x) = pX12_w v := rfl
theorem q12_h_texts (v : BX12) (x : (Nat → Int32)) : pX12_h (sX12_texts v x) = pX12_h v := rfl
theorem q12_taped_texts (v : BX12) (x : (Nat → Int32)) : pX12_taped (sX12_texts v x) = pX12_taped v := rfl
theorem q12_fault_texts (v : BX12) (x : (Nat → Int32)) : pX12_fault (sX12_texts v x) = pX12_fault v := rfl
theorem q12_faultPlace_texts (v : BX12) (x : (Nat → Int32)) : pX12_faultPlace (sX12_texts v x) = pX12_faultPlace v := rfl
theorem q12_at_texts (v : BX12) (x : (Nat → Int32)) : pX12_at (sX12_texts v x) = pX12_at v := rfl
theorem q12_place_texts (v : BX12) (x : (Nat → Int32)) : pX12_place (sX12_texts v x) = pX12_place v := rfl
theorem q12_token_texts (v : BX12) (x : (Nat → Int32)) : pX12_token (sX12_texts v x) = pX12_token v := rfl
theorem q12_number_texts (v : BX12) (x : (Nat → Int32)) : pX12_number (sX12_texts v x) = pX12_number v := rfl
theorem q12_word_texts (v : BX12) (x : (Nat → Int32)) : pX12_word (sX12_texts v x) = pX12_word v := rfl
theorem q12_text0_texts (v : BX12) (x : (Nat → Int32)) : pX12_text0 (sX12_texts v x) = pX12_text0 v := rfl
theorem q12_clauses_texts (v : BX12) (x : (Nat → Int32)) : pX12_clauses (sX12_texts v x) = pX12_clauses v := rfl
theorem q12_written_texts (v : BX12) (x : (Nat → Int32)) : pX12_written (sX12_texts v x) = pX12_written v := rfl
theorem q12_came_texts (v : BX12) (x : (Nat → Int32)) : pX12_came (sX12_texts v x) = pX12_came v := rfl
theorem q12_letters_texts (v : BX12) (x : (Nat → Int32)) : pX12_letters (sX12_texts v x) = pX12_letters v := rfl
theorem q12_piled_texts (v : BX12) (x : (Nat → Int32)) : pX12_piled (sX12_texts v x) = pX12_piled v := rfl
theorem q12_opens_texts (v : BX12) (x : (Nat → Int32)) : pX12_opens (sX12_texts v x) = pX12_opens v := rfl
theorem q12_isWhole_texts (v : BX12) (x : (Nat → Int32)) : pX12_isWhole (sX12_texts v x) = pX12_isWhole v := rfl
theorem q12_bound_texts (v : BX12) (x : (Nat → Int32)) : pX12_bound (sX12_texts v x) = pX12_bound v := rfl
theorem q12_over_texts (v : BX12) (x : (Nat → Int32)) : pX12_over (sX12_texts v x) = pX12_over v := rfl
theorem q12_ticks_texts (v : BX12) (x : (Nat → Int32)) : pX12_ticks (sX12_texts v x) = pX12_ticks v := rfl
theorem q12_atX_texts (v : BX12) (x : (Nat → Int32)) : pX12_atX (sX12_texts v x) = pX12_atX v := rfl
theorem q12_atY_texts (v : BX12) (x : (Nat → Int32)) : pX12_atY (sX12_texts v x) = pX12_atY v := rfl
theorem q12_heading_texts (v : BX12) (x : (Nat → Int32)) : pX12_heading (sX12_texts v x) = pX12_heading v := rfl
theorem q12_hit_texts (v : BX12) (x : (Nat → Int32)) : pX12_hit (sX12_texts v x) = pX12_hit v := rfl
theorem q12_rested_texts (v : BX12) (x : (Nat → Int32)) : pX12_rested (sX12_texts v x) = pX12_rested v := rfl
theorem q12_now_texts (v : BX12) (x : (Nat → Int32)) : pX12_now (sX12_texts v x) = pX12_now v := rfl
theorem q12_turn_texts (v : BX12) (x : (Nat → Int32)) : pX12_turn (sX12_texts v x) = pX12_turn v := rfl
theorem q12_go_texts (v : BX12) (x : (Nat → Int32)) : pX12_go (sX12_texts v x) = pX12_go v := rfl
theorem q12_a_texts (v : BX12) (x : (Nat → Int32)) : pX12_a (sX12_texts v x) = pX12_a v := rfl
theorem q12_image_texts (v : BX12) (x : (Nat → Int32)) : pX12_image (sX12_texts v x) = pX12_image v := rfl
theorem q12_texts_texts (v : BX12) (x : (Nat → Int32)) : pX12_texts (sX12_texts v x) = x := rfl
theorem q12_board_texts (v : BX12) (x : (Nat → Int32)) : pX12_board (sX12_texts v x) = pX12_board v := rfl
theorem q12_taken_texts (v : BX12) (x : (Nat → Int32)) : pX12_taken (sX12_texts v x) = pX12_taken v := rfl
theorem q12_fars_texts (v : BX12) (x : (Nat → Int32)) : pX12_fars (sX12_texts v x) = pX12_fars v := rfl
theorem q12_before_texts (v : BX12) (x : (Nat → Int32)) : pX12_before (sX12_texts v x) = pX12_before v := rfl
theorem q12_tape_texts (v : BX12) (x : (Nat → Int32)) : pX12_tape (sX12_texts v x) = pX12_tape v := rfl
theorem q12_pile_texts (v : BX12) (x : (Nat → Int32)) : pX12_pile (sX12_texts v x) = pX12_pile v := rfl
theorem q12_rows_texts (v : BX12) (x : (Nat → Int32)) : pX12_rows (sX12_texts v x) = pX12_rows v := rfl
theorem q12_told_texts (v : BX12) (x : (Nat → Int32)) : pX12_told (sX12_texts v x) = pX12_told v := rfl
theorem q12_values_texts (v : BX12) (x : (Nat → Int32)) : pX12_values (sX12_texts v x) = pX12_values v := rfl
theorem q12_truth_texts (v : BX12) (x : (Nat → Int32)) : pX12_truth (sX12_texts v x) = pX12_truth v := rfl
theorem q12_keeps_texts (v : BX12) (x : (Nat → Int32)) : pX12_keeps (sX12_texts v x) = pX12_keeps v := rfl
theorem q12_w_board (v : BX12) (x : (Nat → Int32)) : pX12_w (sX12_board v x) = pX12_w v := rfl
theorem q12_h_board (v : BX12) (x : (Nat → Int32)) : pX12_h (sX12_board v x) = pX12_h v := rfl
theorem q12_taped_board (v : BX12) (x : (Nat → Int32)) : pX12_taped (sX12_board v x) = pX12_taped v := rfl
theorem q12_fault_board (v : BX12) (x : (Nat → Int32)) : pX12_fault (sX12_board v x) = pX12_fault v := rfl
theorem q12_faultPlace_board (v : BX12) (x : (Nat → Int32)) : pX12_faultPlace (sX12_board v x) = pX12_faultPlace v := rfl
theorem q12_at_board (v : BX12) (x : (Nat → Int32)) : pX12_at (sX12_board v x) = pX12_at v := rfl
theorem q12_place_board (v : BX12) (x : (Nat → Int32)) : pX12_place (sX12_board v x) = pX12_place v := rfl
theorem q12_token_board (v : BX12) (x : (Nat → Int32)) : pX12_token (sX12_board v x) = pX12_token v := rfl
theorem q12_number_board (v : BX12) (x : (Nat → Int32)) : pX12_number (sX12_board v x) = pX12_number v := rfl
theorem q12_word_board (v : BX12) (x : (Nat → Int32)) : pX12_word (sX12_board v x) = pX12_word v := rfl
theorem q12_text0_board (v : BX12) (x : (Nat → Int32)) : pX12_text0 (sX12_board v x) = pX12_text0 v := rfl
theorem q12_clauses_board (v : BX12) (x : (Nat → Int32)) : pX12_clauses (sX12_board v x) = pX12_clauses v := rfl
theorem q12_written_board (v : BX12) (x : (Nat → Int32)) : pX12_written (sX12_board v x) = pX12_written v := rfl
theorem q12_came_board (v : BX12) (x : (Nat → Int32)) : pX12_came (sX12_board v x) = pX12_came v := rfl
theorem q12_letters_board (v : BX12) (x : (Nat → Int32)) : pX12_letters (sX12_board v x) = pX12_letters v := rfl
theorem q12_piled_board (v : BX12) (x : (Nat → Int32)) : pX12_piled (sX12_board v x) = pX12_piled v := rfl
theorem q12_opens_board (v : BX12) (x : (Nat → Int32)) : pX12_opens (sX12_board v x) = pX12_opens v := rfl
theorem q12_isWhole_board (v : BX12) (x : (Nat → Int32)) : pX12_isWhole (sX12_board v x) = pX12_isWhole v := rfl
theorem q12_bound_board (v : BX12) (x : (Nat → Int32)) : pX12_bound (sX12_board v x) = pX12_bound v := rfl
theorem q12_over_board (v : BX12) (x : (Nat → Int32)) : pX12_over (sX12_board v x) = pX12_over v := rfl
theorem q12_ticks_board (v : BX12) (x : (Nat → Int32)) : pX12_ticks (sX12_board v x) = pX12_ticks v := rfl
theorem q12_atX_board (v : BX12) (x : (Nat → Int32)) : pX12_atX (sX12_board v x) = pX12_atX v := rfl
theorem q12_atY_board (v : BX12) (x : (Nat → Int32)) : pX12_atY (sX12_board v x) = pX12_atY v := rfl
theorem q12_heading_board (v : BX12) (x : (Nat → Int32)) : pX12_heading (sX12_board v x) = pX12_heading v := rfl
theorem q12_hit_board (v : BX12) (x : (Nat → Int32)) : pX12_hit (sX12_board v x) = pX12_hit v := rfl
theorem q12_rested_board (v : BX12) (x : (Nat → Int32)) : pX12_rested (sX12_board v x) = pX12_rested v := rfl
theorem q12_now_board (v : BX12) (x : (Nat → Int32)) : pX12_now (sX12_board v x) = pX12_now v := rfl
theorem q12_turn_board (v : BX12) (x : (Nat → Int32)) : pX12_turn (sX12_board v x) = pX12_turn v := rfl
theorem q12_go_board (v : BX12) (x : (Nat → Int32)) : pX12_go (sX12_board v x) = pX12_go v := rfl
theorem q12_a_board (v : BX12) (x : (Nat → Int32)) : pX12_a (sX12_board v x) = pX12_a v := rfl
theorem q12_image_board (v : BX12) (x : (Nat → Int32)) : pX12_image (sX12_board v x) = pX12_image v := rfl
theorem q12_texts_board (v : BX12) (x : (Nat → Int32)) : pX12_texts (sX12_board v x) = pX12_texts v := rfl
theorem q12_board_board (v : BX12) (x : (Nat → Int32)) : pX12_board (sX12_board v x) = x := rfl
theorem q12_taken_board (v : BX12) (x : (Nat → Int32)) : pX12_taken (sX12_board v x) = pX12_taken v := rfl
theorem q12_fars_board (v : BX12) (x : (Nat → Int32)) : pX12_fars (sX12_board v x) = pX12_fars v := rfl
theorem q12_before_board (v : BX12) (x : (Nat → Int32)) : pX12_before (sX12_board v x) = pX12_before v := rfl
theorem q12_tape_board (v : BX12) (x : (Nat → Int32)) : pX12_tape (sX12_board v x) = pX12_tape v := rfl
theorem q12_pile_board (v : BX12) (x : (Nat → Int32)) : pX12_pile (sX12_board v x) = pX12_pile v := rfl
theorem q12_rows_board (v : BX12) (x : (Nat → Int32)) : pX12_rows (sX12_board v x) = pX12_rows v := rfl
theorem q12_told_board (v : BX12) (x : (Nat → Int32)) : pX12_told (sX12_board v x) = pX12_told v := rfl
theorem q12_values_board (v : BX12) (x : (Nat → Int32)) : pX12_values (sX12_board v x) = pX12_values v := rfl
theorem q12_truth_board (v : BX12) (x : (Nat → Int32)) : pX12_truth (sX12_board v x) = pX12_truth v := rfl
theorem q12_keeps_board (v : BX12) (x : (Nat → Int32)) : pX12_keeps (sX12_board v x) = pX12_keeps v := rfl
theorem q12_w_taken (v : BX12) (x : (Nat → Int32)) : pX12_w (sX12_taken v x) = pX12_w v := rfl
theorem q12_h_taken (v : BX12) (x : (Nat → Int32)) : pX12_h (sX12_taken v x) = pX12_h v := rfl
theorem q12_taped_taken (v : BX12) (x : (Nat → Int32)) : pX12_taped (sX12_taken v x) = pX12_taped v := rfl
theorem q12_fault_taken (v : BX12) (x : (Nat → Int32)) : pX12_fault (sX12_taken v x) = pX12_fault v := rfl
theorem q12_faultPlace_taken (v : BX12) (x : (Nat → Int32)) : pX12_faultPlace (sX12_taken v x) = pX12_faultPlace v := rfl
theorem q12_at_taken (v : BX12) (x : (Nat → Int32)) : pX12_at (sX12_taken v x) = pX12_at v := rfl
theorem q12_place_taken (v : BX12) (x : (Nat → Int32)) : pX12_place (sX12_taken v x) = pX12_place v := rfl
theorem q12_token_taken (v : BX12) (x : (Nat → Int32)) : pX12_token (sX12_taken v x) = pX12_token v := rfl
theorem q12_number_taken (v : BX12) (x : (Nat → Int32)) : pX12_number (sX12_taken v x) = pX12_number v := rfl
theorem q12_word_taken (v : BX12) (x : (Nat → Int32)) : pX12_word (sX12_taken v x) = pX12_word v := rfl
theorem q12_text0_taken (v : BX12) (x : (Nat → Int32)) : pX12_text0 (sX12_taken v x) = pX12_text0 v := rfl
theorem q12_clauses_taken (v : BX12) (x : (Nat → Int32)) : pX12_clauses (sX12_taken v x) = pX12_clauses v := rfl
theorem q12_written_taken (v : BX12) (x : (Nat → Int32)) : pX12_written (sX12_taken v x) = pX12_written v := rfl
theorem q12_came_taken (v : BX12) (x : (Nat → Int32)) : pX12_came (sX12_taken v x) = pX12_came v := rfl
theorem q12_letters_taken (v : BX12) (x : (Nat → Int32)) : pX12_letters (sX12_taken v x) = pX12_letters v := rfl
theorem q12_piled_taken (v : BX12) (x : (Nat → Int32)) : pX12_piled (sX12_taken v x) = pX12_piled v := rfl
theorem q12_opens_taken (v : BX12) (x : (Nat → Int32)) : pX12_opens (sX12_taken v x) = pX12_opens v := rfl
theorem q12_isWhole_taken (v : BX12) (x : (Nat → Int32)) : pX12_isWhole (sX12_taken v x) = pX12_isWhole v := rfl
theorem q12_bound_taken (v : BX12) (x : (Nat → Int32)) : pX12_bound (sX12_taken v x) = pX12_bound v := rfl
theorem q12_over_taken (v : BX12) (x : (Nat → Int32)) : pX12_over (sX12_taken v x) = pX12_over v := rfl
theorem q12_ticks_taken (v : BX12) (x : (Nat → Int32)) : pX12_ticks (sX12_taken v x) = pX12_ticks v := rfl
theorem q12_atX_taken (v : BX12) (x : (Nat → Int32)) : pX12_atX (sX12_taken v x) = pX12_atX v := rfl
theorem q12_atY_taken (v : BX12) (x : (Nat → Int32)) : pX12_atY (sX12_taken v x) = pX12_atY v := rfl
theorem q12_heading_taken (v : BX12) (x : (Nat → Int32)) : pX12_heading (sX12_taken v x) = pX12_heading v := rfl
theorem q12_hit_taken (v : BX12) (x : (Nat → Int32)) : pX12_hit (sX12_taken v x) = pX12_hit v := rfl
theorem q12_rested_taken (v : BX12) (x : (Nat → Int32)) : pX12_rested (sX12_taken v x) = pX12_rested v := rfl
theorem q12_now_taken (v : BX12) (x : (Nat → Int32)) : pX12_now (sX12_taken v x) = pX12_now v := rfl
theorem q12_turn_taken (v : BX12) (x : (Nat → Int32)) : pX12_turn (sX12_taken v x) = pX12_turn v := rfl
theorem q12_go_taken (v : BX12) (x : (Nat → Int32)) : pX12_go (sX12_taken v x) = pX12_go v := rfl
theorem q12_a_taken (v : BX12) (x : (Nat → Int32)) : pX12_a (sX12_taken v x) = pX12_a v := rfl
theorem q12_image_taken (v : BX12) (x : (Nat → Int32)) : pX12_image (sX12_taken v x) = pX12_image v := rfl
theorem q12_texts_taken (v : BX12) (x : (Nat → Int32)) : pX12_texts (sX12_taken v x) = pX12_texts v := rfl
theorem q12_board_taken (v : BX12) (x : (Nat → Int32)) : pX12_board (sX12_taken v x) = pX12_board v := rfl
theorem q12_taken_taken (v : BX12) (x : (Nat → Int32)) : pX12_taken (sX12_taken v x) = x := rfl
theorem q12_fars_taken (v : BX12) (x : (Nat → Int32)) : pX12_fars (sX12_taken v x) = pX12_fars v := rfl
theorem q12_before_taken (v : BX12) (x : (Nat → Int32)) : pX12_before (sX12_taken v x) = pX12_before v := rfl
theorem q12_tape_taken (v : BX12) (x : (Nat → Int32)) : pX12_tape (sX12_taken v x) = pX12_tape v := rfl
theorem q12_pile_taken (v : BX12) (x : (Nat → Int32)) : pX12_pile (sX12_taken v x) = pX12_pile v := rfl
theorem q12_rows_taken (v : BX12) (x : (Nat → Int32)) : pX12_rows (sX12_taken v x) = pX12_rows v := rfl
theorem q12_told_taken (v : BX12) (x : (Nat → Int32)) : pX12_told (sX12_taken v x) = pX12_told v := rfl
theorem q12_values_taken (v : BX12) (x : (Nat → Int32)) : pX12_values (sX12_taken v x) = pX12_values v := rfl
theorem q12_truth_taken (v : BX12) (x : (Nat → Int32)) : pX12_truth (sX12_taken v x) = pX12_truth v := rfl
theorem q12_keeps_taken (v : BX12) (x : (Nat → Int32)) : pX12_keeps (sX12_taken v x) = pX12_keeps v := rfl
theorem q12_w_fars (v : BX12) (x : (Nat → Int32)) : pX12_w (sX12_fars v x) = pX12_w v := rfl
theorem q12_h_fars (v : BX12) (x : (Nat → Int32)) : pX12_h (sX12_fars v x) = pX12_h v := rfl
theorem q12_taped_fars (v : BX12) (x : (Nat → Int32)) : pX12_taped (sX12_fars v x) = pX12_taped v := rfl
theorem q12_fault_fars (v : BX12) (x : (Nat → Int32)) : pX12_fault (sX12_fars v x) = pX12_fault v := rfl
theorem q12_faultPlace_fars (v : BX12) (x : (Nat → Int32)) : pX12_faultPlace (sX12_fars v x) = pX12_faultPlace v := rfl
theorem q12_at_fars (v : BX12) (x : (Nat → Int32)) : pX12_at (sX12_fars v x) = pX12_at v := rfl
theorem q12_place_fars (v : BX12) (x : (Nat → Int32)) : pX12_place (sX12_fars v x) = pX12_place v := rfl
theorem q12_token_fars (v : BX12) (x : (Nat → Int32)) : pX12_token (sX12_fars v x) = pX12_token v := rfl
theorem q12_number_fars (v : BX12) (x : (Nat → Int32)) : pX12_number (sX12_fars v x) = pX12_number v := rfl
theorem q12_word_fars (v : BX12) (x : (Nat → Int32)) : pX12_word (sX12_fars v x) = pX12_word v := rfl
theorem q12_text0_fars (v : BX12) (x : (Nat → Int32)) : pX12_text0 (sX12_fars v x) = pX12_text0 v := rfl
theorem q12_clauses_fars (v : BX12) (x : (Nat → Int32)) : pX12_clauses (sX12_fars v x) = pX12_clauses v := rfl
theorem q12_written_fars (v : BX12) (x : (Nat → Int32)) : pX12_written (sX12_fars v x) = pX12_written v := rfl
theorem q12_came_fars (v : BX12) (x : (Nat → Int32)) : pX12_came (sX12_fars v x) = pX12_came v := rfl
theorem q12_letters_fars (v : BX12) (x : (Nat → Int32)) : pX12_letters (sX12_fars v x) = pX12_letters v := rfl
theorem q12_piled_fars (v : BX12) (x : (Nat → Int32)) : pX12_piled (sX12_fars v x) = pX12_piled v := rfl
theorem q12_opens_fars (v : BX12) (x : (Nat → Int32)) : pX12_opens (sX12_fars v x) = pX12_opens v := rfl
theorem q12_isWhole_fars (v : BX12) (x : (Nat → Int32)) : pX12_isWhole (sX12_fars v x) = pX12_isWhole v := rfl
theorem q12_bound_fars (v : BX12) (x : (Nat → Int32)) : pX12_bound (sX12_fars v x) = pX12_bound v := rfl
theorem q12_over_fars (v : BX12) (x : (Nat → Int32)) : pX12_over (sX12_fars v x) = pX12_over v := rfl
theorem q12_ticks_fars (v : BX12) (x : (Nat → Int32)) : pX12_ticks (sX12_fars v x) = pX12_ticks v := rfl
theorem q12_atX_fars (v : BX12) (x : (Nat → Int32)) : pX12_atX (sX12_fars v x) = pX12_atX v := rfl
theorem q12_atY_fars (v : BX12) (x : (Nat → Int32)) : pX12_atY (sX12_fars v x) = pX12_atY v := rfl
theorem q12_heading_fars (v : BX12) (x : (Nat → Int32)) : pX12_heading (sX12_fars v x) = pX12_heading v := rfl
theorem q12_hit_fars (v : BX12) (x : (Nat → Int32)) : pX12_hit (sX12_fars v x) = pX12_hit v := rfl
theorem q12_rested_fars (v : BX12) (x : (Nat → Int32)) : pX12_rested (sX12_fars v x) = pX12_rested v := rfl
theorem q12_now_fars (v : BX12) (x : (Nat → Int32)) : pX12_now (sX12_fars v x) = pX12_now v := rfl
theorem q12_turn_fars (v : BX12) (x : (Nat → Int32)) : pX12_turn (sX12_fars v x) = pX12_turn v := rfl
theorem q12_go_fars (v : BX12) (x : (Nat → Int32)) : pX12_go (sX12_fars v x) = pX12_go v := rfl
theorem q12_a_fars (v : BX12) (x : (Nat → Int32)) : pX12_a (sX12_fars v x) = pX12_a v := rfl
theorem q12_image_fars (v : BX12) (x : (Nat → Int32)) : pX12_image (sX12_fars v x) = pX12_image v := rfl
theorem q12_texts_fars (v : BX12) (x : (Nat → Int32)) : pX12_texts (sX12_fars v x) = pX12_texts v := rfl
theorem q12_board_fars (v : BX12) (x : (Nat → Int32)) : pX12_board (sX12_fars v x) = pX12_board v := rfl
theorem q12_taken_fars (v : BX12) (x : (Nat → Int32)) : pX12_taken (sX12_fars v x) = pX12_taken v := rfl
theorem q12_fars_fars (v : BX12) (x : (Nat → Int32)) : pX12_fars (sX12_fars v x) = x := rfl
theorem q12_before_fars (v : BX12) (x : (Nat → Int32)) : pX12_before (sX12_fars v x) = pX12_before v := rfl
theorem q12_tape_fars (v : BX12) (x : (Nat → Int32)) : pX12_tape (sX12_fars v x) = pX12_tape v := rfl
theorem q12_pile_fars (v : BX12) (x : (Nat → Int32)) : pX12_pile (sX12_fars v x) = pX12_pile v := rfl
theorem q12_rows_fars (v : BX12) (x : (Nat → Int32)) : pX12_rows (sX12_fars v x) = pX12_rows v := rfl
theorem q12_told_fars (v : BX12) (x : (Nat → Int32)) : pX12_told (sX12_fars v x) = pX12_told v := rfl
theorem q12_values_fars (v : BX12) (x : (Nat → Int32)) : pX12_values (sX12_fars v x) = pX12_values v := rfl
theorem q12_truth_fars (v : BX12) (x : (Nat → Int32)) : pX12_truth (sX12_fars v x) = pX12_truth v := rfl
theorem q12_keeps_fars (v : BX12) (x : (Nat → Int32)) : pX12_keeps (sX12_fars v x) = pX12_keeps v := rfl
theorem q12_w_before (v : BX12) (x : (Nat → Int32)) : pX12_w (sX12_before v x) = pX12_w v := rfl
theorem q12_h_before (v : BX12) (x : (Nat → Int32)) : pX12_h (sX12_before v x) = pX12_h v := rfl
theorem q12_taped_before (v : BX12) (x : (Nat → Int32)) : pX12_taped (sX12_before v x) = pX12_taped v := rfl
theorem q12_fault_before (v : BX12) (x : (Nat → Int32)) : pX12_fault (sX12_before v x) = pX12_fault v := rfl
theorem q12_faultPlace_before (v : BX12) (x : (Nat → Int32)) : pX12_faultPlace (sX12_before v x) = pX12_faultPlace v := rfl
theorem q12_at_before (v : BX12) (x : (Nat → Int32)) : pX12_at (sX12_before v x) = pX12_at v := rfl
theorem q12_place_before (v : BX12) (x : (Nat → Int32)) : pX12_place (sX12_before v x) = pX12_place v := rfl
theorem q12_token_before (v : BX12) (x : (Nat → Int32)) : pX12_token (sX12_before v x) = pX12_token v := rfl
theorem q12_number_before (v : BX12) (x : (Nat → Int32)) : pX12_number (sX12_before v x) = pX12_number v := rfl
theorem q12_word_before (v : BX12) (x : (Nat → Int32)) : pX12_word (sX12_before v x) = pX12_word v := rfl
theorem q12_text0_before (v : BX12) (x : (Nat → Int32)) : pX12_text0 (sX12_before v x) = pX12_text0 v := rfl
theorem q12_clauses_before (v : BX12) (x : (Nat → Int32)) : pX12_clauses (sX12_before v x) = pX12_clauses v := rfl
theorem q12_written_before (v : BX12) (x : (Nat → Int32)) : pX12_written (sX12_before v x) = pX12_written v := rfl
theorem q12_came_before (v : BX12) (x : (Nat → Int32)) : pX12_came (sX12_before v x) = pX12_came v := rfl
theorem q12_letters_before (v : BX12) (x : (Nat → Int32)) : pX12_letters (sX12_before v x) = pX12_letters v := rfl
theorem q12_piled_before (v : BX12) (x : (Nat → Int32)) : pX12_piled (sX12_before v x) = pX12_piled v := rfl
theorem q12_opens_before (v : BX12) (x : (Nat → Int32)) : pX12_opens (sX12_before v x) = pX12_opens v := rfl
theorem q12_isWhole_before (v : BX12) (x : (Nat → Int32)) : pX12_isWhole (sX12_before v x) = pX12_isWhole v := rfl
theorem q12_bound_before (v : BX12) (x : (Nat → Int32)) : pX12_bound (sX12_before v x) = pX12_bound v := rfl
theorem q12_over_before (v : BX12) (x : (Nat → Int32)) : pX12_over (sX12_before v x) = pX12_over v := rfl
theorem q12_ticks_before (v : BX12) (x : (Nat → Int32)) : pX12_ticks (sX12_before v x) = pX12_ticks v := rfl
theorem q12_atX_before (v : BX12) (x : (Nat → Int32)) : pX12_atX (sX12_before v x) = pX12_atX v := rfl
theorem q12_atY_before (v : BX12) (x : (Nat → Int32)) : pX12_atY (sX12_before v x) = pX12_atY v := rfl
theorem q12_heading_before (v : BX12) (x : (Nat → Int32)) : pX12_heading (sX12_before v x) = pX12_heading v := rfl
theorem q12_hit_before (v : BX12) (x : (Nat → Int32)) : pX12_hit (sX12_before v x) = pX12_hit v := rfl
theorem q12_rested_before (v : BX12) (x : (Nat → Int32)) : pX12_rested (sX12_before v x) = pX12_rested v := rfl
theorem q12_now_before (v : BX12) (x : (Nat → Int32)) : pX12_now (sX12_before v x) = pX12_now v := rfl
theorem q12_turn_before (v : BX12) (x : (Nat → Int32)) : pX12_turn (sX12_before v x) = pX12_turn v := rfl
theorem q12_go_before (v : BX12) (x : (Nat → Int32)) : pX12_go (sX12_before v x) = pX12_go v := rfl
theorem q12_a_before (v : BX12) (x : (Nat → Int32)) : pX12_a (sX12_before v x) = pX12_a v := rfl
theorem q12_image_before (v : BX12) (x : (Nat → Int32)) : pX12_image (sX12_before v x) = pX12_image v := rfl
theorem q12_texts_before (v : BX12) (x : (Nat → Int32)) : pX12_texts (sX12_before v x) = pX12_texts v := rfl
theorem q12_board_before (v : BX12) (x : (Nat → Int32)) : pX12_board (sX12_before v x) = pX12_board v := rfl
theorem q12_taken_before (v : BX12) (x : (Nat → Int32)) : pX12_taken (sX12_before v x) = pX12_taken v := rfl
theorem q12_fars_before (v : BX12) (x : (Nat → Int32)) : pX12_fars (sX12_before v x) = pX12_fars v := rfl
theorem q12_before_before (v : BX12) (x : (Nat → Int32)) : pX12_before (sX12_before v x) = x := rfl
theorem q12_tape_before (v : BX12) (x : (Nat → Int32)) : pX12_tape (sX12_before v x) = pX12_tape v := rfl
theorem q12_pile_before (v : BX12) (x : (Nat → Int32)) : pX12_pile (sX12_before v x) = pX12_pile v := rfl
theorem q12_rows_before (v : BX12) (x : (Nat → Int32)) : pX12_rows (sX12_before v x) = pX12_rows v := rfl
theorem q12_told_before (v : BX12) (x : (Nat → Int32)) : pX12_told (sX12_before v x) = pX12_told v := rfl
theorem q12_values_before (v : BX12) (x : (Nat → Int32)) : pX12_values (sX12_before v x) = pX12_values v := rfl
theorem q12_truth_before (v : BX12) (x : (Nat → Int32)) : pX12_truth (sX12_before v x) = pX12_truth v := rfl
theorem q12_keeps_before (v : BX12) (x : (Nat → Int32)) : pX12_keeps (sX12_before v x) = pX12_keeps v := rfl
theorem q12_w_tape (v : BX12) (x : (Nat → Int32)) : pX12_w (sX12_tape v x) = pX12_w v := rfl
theorem q12_h_tape (v : BX12) (x : (Nat → Int32)) : pX12_h (sX12_tape v x) = pX12_h v := rfl
theorem q12_taped_tape (v : BX12) (x : (Nat → Int32)) : pX12_taped (sX12_tape v x) = pX12_taped v := rfl
theorem q12_fault_tape (v : BX12) (x : (Nat → Int32)) : pX12_fault (sX12_tape v x) = pX12_fault v := rfl
theorem q12_faultPlace_tape (v : BX12) (x : (Nat → Int32)) : pX12_faultPlace (sX12_tape v x) = pX12_faultPlace v := rfl
theorem q12_at_tape (v : BX12) (x : (Nat → Int32)) : pX12_at (sX12_tape v x) = pX12_at v := rfl
theorem q12_place_tape (v : BX12) (x : (Nat → Int32)) : pX12_place (sX12_tape v x) = pX12_place v := rfl
theorem q12_token_tape (v : BX12) (x : (Nat → Int32)) : pX12_token (sX12_tape v x) = pX12_token v := rfl
theorem q12_number_tape (v : BX12) (x : (Nat → Int32)) : pX12_number (sX12_tape v x) = pX12_number v := rfl
theorem q12_word_tape (v : BX12) (x : (Nat → Int32)) : pX12_word (sX12_tape v x) = pX12_word v := rfl
theorem q12_text0_tape (v : BX12) (x : (Nat → Int32)) : pX12_text0 (sX12_tape v x) = pX12_text0 v := rfl
theorem q12_clauses_tape (v : BX12) (x : (Nat → Int32)) : pX12_clauses (sX12_tape v x) = pX12_clauses v := rfl
theorem q12_written_tape (v : BX12) (x : (Nat → Int32)) : pX12_written (sX12_tape v x) = pX12_written v := rfl
theorem q12_came_tape (v : BX12) (x : (Nat → Int32)) : pX12_came (sX12_tape v x) = pX12_came v := rfl
theorem q12_letters_tape (v : BX12) (x : (Nat → Int32)) : pX12_letters (sX12_tape v x) = pX12_letters v := rfl
theorem q12_piled_tape (v : BX12) (x : (Nat → Int32)) : pX12_piled (sX12_tape v x) = pX12_piled v := rfl
theorem q12_opens_tape (v : BX12) (x : (Nat → Int32)) : pX12_opens (sX12_tape v x) = pX12_opens v := rfl
theorem q12_isWhole_tape (v : BX12) (x : (Nat → Int32)) : pX12_isWhole (sX12_tape v x) = pX12_isWhole v := rfl
theorem q12_bound_tape (v : BX12) (x : (Nat → Int32)) : pX12_bound (sX12_tape v x) = pX12_bound v := rfl
theorem q12_over_tape (v : BX12) (x : (Nat → Int32)) : pX12_over (sX12_tape v x) = pX12_over v := rfl
theorem q12_ticks_tape (v : BX12) (x : (Nat → Int32)) : pX12_ticks (sX12_tape v x) = pX12_ticks v := rfl
theorem q12_atX_tape (v : BX12) (x : (Nat → Int32)) : pX12_atX (sX12_tape v x) = pX12_atX v := rfl
theorem q12_atY_tape (v : BX12) (x : (Nat → Int32)) : pX12_atY (sX12_tape v x) = pX12_atY v := rfl
theorem q12_heading_tape (v : BX12) (x : (Nat → Int32)) : pX12_heading (sX12_tape v x) = pX12_heading v := rfl
theorem q12_hit_tape (v : BX12) (x : (Nat → Int32)) : pX12_hit (sX12_tape v x) = pX12_hit v := rfl
theorem q12_rested_tape (v : BX12) (x : (Nat → Int32)) : pX12_rested (sX12_tape v x) = pX12_rested v := rfl
theorem q12_now_tape (v : BX12) (x : (Nat → Int32)) : pX12_now (sX12_tape v x) = pX12_now v := rfl
theorem q12_turn_tape (v : BX12) (x : (Nat → Int32)) : pX12_turn (sX12_tape v x) = pX12_turn v := rfl
theorem q12_go_tape (v : BX12) (x : (Nat → Int32)) : pX12_go (sX12_tape v x) = pX12_go v := rfl
theorem q12_a_tape (v : BX12) (x : (Nat → Int32)) : pX12_a (sX12_tape v x) = pX12_a v := rfl
theorem q12_image_tape (v : BX12) (x : (Nat → Int32)) : pX12_image (sX12_tape v x) = pX12_image v := rfl
theorem q12_texts_tape (v : BX12) (x : (Nat → Int32)) : pX12_texts (sX12_tape v x) = pX12_texts v := rfl
theorem q12_board_tape (v : BX12) (x : (Nat → Int32)) : pX12_board (sX12_tape v x) = pX12_board v := rfl
theorem q12_taken_tape (v : BX12) (x : (Nat → Int32)) : pX12_taken (sX12_tape v x) = pX12_taken v := rfl
theorem q12_fars_tape (v : BX12) (x : (Nat → Int32)) : pX12_fars (sX12_tape v x) = pX12_fars v := rfl
theorem q12_before_tape (v : BX12) (x : (Nat → Int32)) : pX12_before (sX12_tape v x) = pX12_before v := rfl
theorem q12_tape_tape (v : BX12) (x : (Nat → Int32)) : pX12_tape (sX12_tape v x) = x := rfl
theorem q12_pile_tape (v : BX12) (x : (Nat → Int32)) : pX12_pile (sX12_tape v x) = pX12_pile v := rfl
theorem q12_rows_tape (v : BX12) (x : (Nat → Int32)) : pX12_rows (sX12_tape v x) = pX12_rows v := rfl
theorem q12_told_tape (v : BX12) (x : (Nat → Int32)) : pX12_told (sX12_tape v x) = pX12_told v := rfl
theorem q12_values_tape (v : BX12) (x : (Nat → Int32)) : pX12_values (sX12_tape v x) = pX12_values v := rfl
theorem q12_truth_tape (v : BX12) (x : (Nat → Int32)) : pX12_truth (sX12_tape v x) = pX12_truth v := rfl
theorem q12_keeps_tape (v : BX12) (x : (Nat → Int32)) : pX12_keeps (sX12_tape v x) = pX12_keeps v := rfl
theorem q12_w_pile (v : BX12) (x : (Nat → Int32)) : pX12_w (sX12_pile v x) = pX12_w v := rfl
theorem q12_h_pile (v : BX12) (x : (Nat → Int32)) : pX12_h (sX12_pile v x) = pX12_h v := rfl
theorem q12_taped_pile (v : BX12) (x : (Nat → Int32)) : pX12_taped (sX12_pile v x) = pX12_taped v := rfl
theorem q12_fault_pile (v : BX12) (x : (Nat → Int32)) : pX12_fault (sX12_pile v x) = pX12_fault v := rfl
theorem q12_faultPlace_pile (v : BX12) (x : (Nat → Int32)) : pX12_faultPlace (sX12_pile v x) = pX12_faultPlace v := rfl
theorem q12_at_pile (v : BX12) (x : (Nat → Int32)) : pX12_at (sX12_pile v x) = pX12_at v := rfl
theorem q12_place_pile (v : BX12) (x : (Nat → Int32)) : pX12_place (sX12_pile v x) = pX12_place v := rfl
theorem q12_token_pile (v : BX12) (x : (Nat → Int32)) : pX12_token (sX12_pile v x) = pX12_token v := rfl
theorem q12_number_pile (v : BX12) (x : (Nat → Int32)) : pX12_number (sX12_pile v x) = pX12_number v := rfl
theorem q12_word_pile (v : BX12) (x : (Nat → Int32)) : pX12_word (sX12_pile v x) = pX12_word v := rfl
theorem q12_text0_pile (v : BX12) (x : (Nat → Int32)) : pX12_text0 (sX12_pile v x) = pX12_text0 v := rfl
theorem q12_clauses_pile (v : BX12) (x : (Nat → Int32)) : pX12_clauses (sX12_pile v x) = pX12_clauses v := rfl
theorem q12_written_pile (v : BX12) (x : (Nat → Int32)) : pX12_written (sX12_pile v x) = pX12_written v := rfl
theorem q12_came_pile (v : BX12) (x : (Nat → Int32)) : pX12_came (sX12_pile v x) = pX12_came v := rfl
theorem q12_letters_pile (v : BX12) (x : (Nat → Int32)) : pX12_letters (sX12_pile v x) = pX12_letters v := rfl
theorem q12_piled_pile (v : BX12) (x : (Nat → Int32)) : pX12_piled (sX12_pile v x) = pX12_piled v := rfl
theorem q12_opens_pile (v : BX12) (x : (Nat → Int32)) : pX12_opens (sX12_pile v x) = pX12_opens v := rfl
theorem q12_isWhole_pile (v : BX12) (x : (Nat → Int32)) : pX12_isWhole (sX12_pile v x) = pX12_isWhole v := rfl
theorem q12_bound_pile (v : BX12) (x : (Nat → Int32)) : pX12_bound (sX12_pile v x) = pX12_bound v := rfl
theorem q12_over_pile (v : BX12) (x : (Nat → Int32)) : pX12_over (sX12_pile v x) = pX12_over v := rfl
theorem q12_ticks_pile (v : BX12) (x : (Nat → Int32)) : pX12_ticks (sX12_pile v x) = pX12_ticks v := rfl
theorem q12_atX_pile (v : BX12) (x : (Nat → Int32)) : pX12_atX (sX12_pile v x) = pX12_atX v := rfl
theorem q12_atY_pile (v : BX12) (x : (Nat → Int32)) : pX12_atY (sX12_pile v x) = pX12_atY v := rfl
theorem q12_heading_pile (v : BX12) (x : (Nat → Int32)) : pX12_heading (sX12_pile v x) = pX12_heading v := rfl
theorem q12_hit_pile (v : BX12) (x : (Nat → Int32)) : pX12_hit (sX12_pile v x) = pX12_hit v := rfl
theorem q12_rested_pile (v : BX12) (x : (Nat → Int32)) : pX12_rested (sX12_pile v x) = pX12_rested v := rfl
theorem q12_now_pile (v : BX12) (x : (Nat → Int32)) : pX12_now (sX12_pile v x) = pX12_now v := rfl
theorem q12_turn_pile (v : BX12) (x : (Nat → Int32)) : pX12_turn (sX12_pile v x) = pX12_turn v := rfl
theorem q12_go_pile (v : BX12) (x : (Nat → Int32)) : pX12_go (sX12_pile v x) = pX12_go v := rfl
theorem q12_a_pile (v : BX12) (x : (Nat → Int32)) : pX12_a (sX12_pile v x) = pX12_a v := rfl
theorem q12_image_pile (v : BX12) (x : (Nat → Int32)) : pX12_image (sX12_pile v x) = pX12_image v := rfl
theorem q12_texts_pile (v : BX12) (x : (Nat → Int32)) : pX12_texts (sX12_pile v x) = pX12_texts v := rfl
theorem q12_board_pile (v : BX12) (x : (Nat → Int32)) : pX12_board (sX12_pile v x) = pX12_board v := rfl
theorem q12_taken_pile (v : BX12) (x : (Nat → Int32)) : pX12_taken (sX12_pile v x) = pX12_taken v := rfl
theorem q12_fars_pile (v : BX12) (x : (Nat → Int32)) : pX12_fars (sX12_pile v x) = pX12_fars v := rfl
theorem q12_before_pile (v : BX12) (x : (Nat → Int32)) : pX12_before (sX12_pile v x) = pX12_before v := rfl
theorem q12_tape_pile (v : BX12) (x : (Nat → Int32)) : pX12_tape (sX12_pile v x) = pX12_tape v := rfl
theorem q12_pile_pile (v : BX12) (x : (Nat → Int32)) : pX12_pile (sX12_pile v x) = x := rfl
theorem q12_rows_pile (v : BX12) (x : (Nat → Int32)) : pX12_rows (sX12_pile v x) = pX12_rows v := rfl
theorem q12_told_pile (v : BX12) (x : (Nat → Int32)) : pX12_told (sX12_pile v x) = pX12_told v := rfl
theorem q12_values_pile (v : BX12) (x : (Nat → Int32)) : pX12_values (sX12_pile v x) = pX12_values v := rfl
theorem q12_truth_pile (v : BX12) (x : (Nat → Int32)) : pX12_truth (sX12_pile v x) = pX12_truth v := rfl
theorem q12_keeps_pile (v : BX12) (x : (Nat → Int32)) : pX12_keeps (sX12_pile v x) = pX12_keeps v := rfl
theorem q12_w_rows (v : BX12) (x : (Nat → Int32)) : pX12_w (sX12_rows v x) = pX12_w v := rfl
theorem q12_h_rows (v : BX12) (x : (Nat → Int32)) : pX12_h (sX12_rows v x) = pX12_h v := rfl
theorem q12_taped_rows (v : BX12) (x : (Nat → Int32)) : pX12_taped (sX12_rows v x) = pX12_taped v := rfl
theorem q12_fault_rows (v : BX12) (x : (Nat → Int32)) : pX12_fault (sX12_rows v x) = pX12_fault v := rfl
theorem q12_faultPlace_rows (v : BX12) (x : (Nat → Int32)) : pX12_faultPlace (sX12_rows v x) = pX12_faultPlace v := rfl
theorem q12_at_rows (v : BX12) (x : (Nat → Int32)) : pX12_at (sX12_rows v x) = pX12_at v := rfl
theorem q12_place_rows (v : BX12) (x : (Nat → Int32)) : pX12_place (sX12_rows v x) = pX12_place v := rfl
theorem q12_token_rows (v : BX12) (x : (Nat → Int32)) : pX12_token (sX12_rows v x) = pX12_token v := rfl
theorem q12_number_rows (v : BX12) (x : (Nat → Int32)) : pX12_number (sX12_rows v x) = pX12_number v := rfl
theorem q12_word_rows (v : BX12) (x : (Nat → Int32)) : pX12_word (sX12_rows v x) = pX12_word v := rfl
theorem q12_text0_rows (v : BX12) (x : (Nat → Int32)) : pX12_text0 (sX12_rows v x) = pX12_text0 v := rfl
theorem q12_clauses_rows (v : BX12) (x : (Nat → Int32)) : pX12_clauses (sX12_rows v x) = pX12_clauses v := rfl
theorem q12_written_rows (v : BX12) (x : (Nat → Int32)) : pX12_written (sX12_rows v x) = pX12_written v := rfl
theorem q12_came_rows (v : BX12) (x : (Nat → Int32)) : pX12_came (sX12_rows v x) = pX12_came v := rfl
theorem q12_letters_rows (v : BX12) (x : (Nat → Int32)) : pX12_letters (sX12_rows v x) = pX12_letters v := rfl
theorem q12_piled_rows (v : BX12) (x : (Nat → Int32)) : pX12_piled (sX12_rows v x) = pX12_piled v := rfl
theorem q12_opens_rows (v : BX12) (x : (Nat → Int32)) : pX12_opens (sX12_rows v x) = pX12_opens v := rfl
theorem q12_isWhole_rows (v : BX12) (x : (Nat → Int32)) : pX12_isWhole (sX12_rows v x) = pX12_isWhole v := rfl
theorem q12_bound_rows (v : BX12) (x : (Nat → Int32)) : pX12_bound (sX12_rows v x) = pX12_bound v := rfl
theorem q12_over_rows (v : BX12) (x : (Nat → Int32)) : pX12_over (sX12_rows v x) = pX12_over v := rfl
theorem q12_ticks_rows (v : BX12) (x : (Nat → Int32)) : pX12_ticks (sX12_rows v x) = pX12_ticks v := rfl
theorem q12_atX_rows (v : BX12) (x : (Nat → Int32)) : pX12_atX (sX12_rows v x) = pX12_atX v := rfl
theorem q12_atY_rows (v : BX12) (x : (Nat → Int32)) : pX12_atY (sX12_rows v x) = pX12_atY v := rfl
theorem q12_heading_rows (v : BX12) (x : (Nat → Int32)) : pX12_heading (sX12_rows v x) = pX12_heading v := rfl
theorem q12_hit_rows (v : BX12) (x : (Nat → Int32)) : pX12_hit (sX12_rows v x) = pX12_hit v := rfl
theorem q12_rested_rows (v : BX12) (x : (Nat → Int32)) : pX12_rested (sX12_rows v x) = pX12_rested v := rfl
theorem q12_now_rows (v : BX12) (x : (Nat → Int32)) : pX12_now (sX12_rows v x) = pX12_now v := rfl
theorem q12_turn_rows (v : BX12) (x : (Nat → Int32)) : pX12_turn (sX12_rows v x) = pX12_turn v := rfl
theorem q12_go_rows (v : BX12) (x : (Nat → Int32)) : pX12_go (sX12_rows v x) = pX12_go v := rfl
theorem q12_a_rows (v : BX12) (x : (Nat → Int32)) : pX12_a (sX12_rows v x) = pX12_a v := rfl
theorem q12_image_rows (v : BX12) (x : (Nat → Int32)) : pX12_image (sX12_rows v x) = pX12_image v := rfl
theorem q12_texts_rows (v : BX12) (x : (Nat → Int32)) : pX12_texts (sX12_rows v x) = pX12_texts v := rfl
theorem q12_board_rows (v : BX12) (x : (Nat → Int32)) : pX12_board (sX12_rows v x) = pX12_board v := rfl
theorem q12_taken_rows (v : BX12) (x : (Nat → Int32)) : pX12_taken (sX12_rows v x) = pX12_taken v := rfl
theorem q12_fars_rows (v : BX12) (x : (Nat → Int32)) : pX12_fars (sX12_rows v x) = pX12_fars v := rfl
theorem q12_before_rows (v : BX12) (x : (Nat → Int32)) : pX12_before (sX12_rows v x) = pX12_before v := rfl
theorem q12_tape_rows (v : BX12) (x : (Nat → Int32)) : pX12_tape (sX12_rows v x) = pX12_tape v := rfl
theorem q12_pile_rows (v : BX12) (x : (Nat → Int32)) : pX12_pile (sX12_rows v x) = pX12_pile v := rfl
theorem q12_rows_rows (v : BX12) (x : (Nat → Int32)) : pX12_rows (sX12_rows v x) = x := rfl
theorem q12_told_rows (v : BX12) (x : (Nat → Int32)) : pX12_told (sX12_rows v x) = pX12_told v := rfl
theorem q12_values_rows (v : BX12) (x : (Nat → Int32)) : pX12_values (sX12_rows v x) = pX12_values v := rfl
theorem q12_truth_rows (v : BX12) (x : (Nat → Int32)) : pX12_truth (sX12_rows v x) = pX12_truth v := rfl
theorem q12_keeps_rows (v : BX12) (x : (Nat → Int32)) : pX12_keeps (sX12_rows v x) = pX12_keeps v := rfl
theorem q12_w_told (v : BX12) (x : (Nat → Int32)) : pX12_w (sX12_told v x) = pX12_w v := rfl
theorem q12_h_told (v : BX12) (x : (Nat → Int32)) : pX12_h (sX12_told v x) = pX12_h v := rfl
theorem q12_taped_told (v : BX12) (x : (Nat → Int32)) : pX12_taped (sX12_told v x) = pX12_taped v := rfl
theorem q12_fault_told (v : BX12) (x : (Nat → Int32)) : pX12_fault (sX12_told v x) = pX12_fault v := rfl
theorem q12_faultPlace_told (v : BX12) (x : (Nat → Int32)) : pX12_faultPlace (sX12_told v x) = pX12_faultPlace v := rfl
theorem q12_at_told (v : BX12) (x : (Nat → Int32)) : pX12_at (sX12_told v x) = pX12_at v := rfl
theorem q12_place_told (v : BX12) (x : (Nat → Int32)) : pX12_place (sX12_told v x) = pX12_place v := rfl
theorem q12_token_told (v : BX12) (x : (Nat → Int32)) : pX12_token (sX12_told v x) = pX12_token v := rfl
theorem q12_number_told (v : BX12) (x : (Nat → Int32)) : pX12_number (sX12_told v x) = pX12_number v := rfl
theorem q12_word_told (v : BX12) (x : (Nat → Int32)) : pX12_word (sX12_told v x) = pX12_word v := rfl
theorem q12_text0_told (v : BX12) (x : (Nat → Int32)) : pX12_text0 (sX12_told v x) = pX12_text0 v := rfl
theorem q12_clauses_told (v : BX12) (x : (Nat → Int32)) : pX12_clauses (sX12_told v x) = pX12_clauses v := rfl
theorem q12_written_told (v : BX12) (x : (Nat → Int32)) : pX12_written (sX12_told v x) = pX12_written v := rfl
theorem q12_came_told (v : BX12) (x : (Nat → Int32)) : pX12_came (sX12_told v x) = pX12_came v := rfl
theorem q12_letters_told (v : BX12) (x : (Nat → Int32)) : pX12_letters (sX12_told v x) = pX12_letters v := rfl
theorem q12_piled_told (v : BX12) (x : (Nat → Int32)) : pX12_piled (sX12_told v x) = pX12_piled v := rfl
theorem q12_opens_told (v : BX12) (x : (Nat → Int32)) : pX12_opens (sX12_told v x) = pX12_opens v := rfl
theorem q12_isWhole_told (v : BX12) (x : (Nat → Int32)) : pX12_isWhole (sX12_told v x) = pX12_isWhole v := rfl
theorem q12_bound_told (v : BX12) (x : (Nat → Int32)) : pX12_bound (sX12_told v x) = pX12_bound v := rfl
theorem q12_over_told (v : BX12) (x : (Nat → Int32)) : pX12_over (sX12_told v x) = pX12_over v := rfl
theorem q12_ticks_told (v : BX12) (x : (Nat → Int32)) : pX12_ticks (sX12_told v x) = pX12_ticks v := rfl
theorem q12_atX_told (v : BX12) (x : (Nat → Int32)) : pX12_atX (sX12_told v x) = pX12_atX v := rfl
theorem q12_atY_told (v : BX12) (x : (Nat → Int32)) : pX12_atY (sX12_told v x) = pX12_atY v := rfl
theorem q12_heading_told (v : BX12) (x : (Nat → Int32)) : pX12_heading (sX12_told v x) = pX12_heading v := rfl
theorem q12_hit_told (v : BX12) (x : (Nat → Int32)) : pX12_hit (sX12_told v x) = pX12_hit v := rfl
theorem q12_rested_told (v : BX12) (x : (Nat → Int32)) : pX12_rested (sX12_told v x) = pX12_rested v := rfl
theorem q12_now_told (v : BX12) (x : (Nat → Int32)) : pX12_now (sX12_told v x) = pX12_now v := rfl
theorem q12_turn_told (v : BX12) (x : (Nat → Int32)) : pX12_turn (sX12_told v x) = pX12_turn v := rfl
theorem q12_go_told (v : BX12) (x : (Nat → Int32)) : pX12_go (sX12_told v x) = pX12_go v := rfl
theorem q12_a_told (v : BX12) (x : (Nat → Int32)) : pX12_a (sX12_told v x) = pX12_a v := rfl
theorem q12_image_told (v : BX12) (x : (Nat → Int32)) : pX12_image (sX12_told v x) = pX12_image v := rfl
theorem q12_texts_told (v : BX12) (x : (Nat → Int32)) : pX12_texts (sX12_told v x) = pX12_texts v := rfl
theorem q12_board_told (v : BX12) (x : (Nat → Int32)) : pX12_board (sX12_told v x) = pX12_board v := rfl
theorem q12_taken_told (v : BX12) (x : (Nat → Int32)) : pX12_taken (sX12_told v x) = pX12_taken v := rfl
theorem q12_fars_told (v : BX12) (x : (Nat → Int32)) : pX12_fars (sX12_told v x) = pX12_fars v := rfl
theorem q12_before_told (v : BX12) (x : (Nat → Int32)) : pX12_before (sX12_told v x) = pX12_before v := rfl
theorem q12_tape_told (v : BX12) (x : (Nat → Int32)) : pX12_tape (sX12_told v x) = pX12_tape v := rfl
theorem q12_pile_told (v : BX12) (x : (Nat → Int32)) : pX12_pile (sX12_told v x) = pX12_pile v := rfl
theorem q12_rows_told (v : BX12) (x : (Nat → Int32)) : pX12_rows (sX12_told v x) = pX12_rows v := rfl
theorem q12_told_told (v : BX12) (x : (Nat → Int32)) : pX12_told (sX12_told v x) = x := rfl
theorem q12_values_told (v : BX12) (x : (Nat → Int32)) : pX12_values (sX12_told v x) = pX12_values v := rfl
theorem q12_truth_told (v : BX12) (x : (Nat → Int32)) : pX12_truth (sX12_told v x) = pX12_truth v := rfl
theorem q12_keeps_told (v : BX12) (x : (Nat → Int32)) : pX12_keeps (sX12_told v x) = pX12_keeps v := rfl
theorem q12_w_values (v : BX12) (x : (Nat → Int64)) : pX12_w (sX12_values v x) = pX12_w v := rfl
theorem q12_h_values (v : BX12) (x : (Nat → Int64)) : pX12_h (sX12_values v x) = pX12_h v := rfl
theorem q12_taped_values (v : BX12) (x : (Nat → Int64)) : pX12_taped (sX12_values v x) = pX12_taped v := rfl
theorem q12_fault_values (v : BX12) (x : (Nat → Int64)) : pX12_fault (sX12_values v x) = pX12_fault v := rfl
theorem q12_faultPlace_values (v : BX12) (x : (Nat → Int64)) : pX12_faultPlace (sX12_values v x) = pX12_faultPlace v := rfl
theorem q12_at_values (v : BX12) (x : (Nat → Int64)) : pX12_at (sX12_values v x) = pX12_at v := rfl
theorem q12_place_values (v : BX12) (x : (Nat → Int64)) : pX12_place (sX12_values v x) = pX12_place v := rfl
theorem q12_token_values (v : BX12) (x : (Nat → Int64)) : pX12_token (sX12_values v x) = pX12_token v := rfl
theorem q12_number_values (v : BX12) (x : (Nat → Int64)) : pX12_number (sX12_values v x) = pX12_number v := rfl
theorem q12_word_values (v : BX12) (x : (Nat → Int64)) : pX12_word (sX12_values v x) = pX12_word v := rfl
theorem q12_text0_values (v : BX12) (x : (Nat → Int64)) : pX12_text0 (sX12_values v x) = pX12_text0 v := rfl
theorem q12_clauses_values (v : BX12) (x : (Nat → Int64)) : pX12_clauses (sX12_values v x) = pX12_clauses v := rfl
theorem q12_written_values (v : BX12) (x : (Nat → Int64)) : pX12_written (sX12_values v x) = pX12_written v := rfl
theorem q12_came_values (v : BX12) (x : (Nat → Int64)) : pX12_came (sX12_values v x) = pX12_came v := rfl
theorem q12_letters_values (v : BX12) (x : (Nat → Int64)) : pX12_letters (sX12_values v x) = pX12_letters v := rfl
theorem q12_piled_values (v : BX12) (x : (Nat → Int64)) : pX12_piled (sX12_values v x) = pX12_piled v := rfl
theorem q12_opens_values (v : BX12) (x : (Nat → Int64)) : pX12_opens (sX12_values v x) = pX12_opens v := rfl
theorem q12_isWhole_values (v : BX12) (x : (Nat → Int64)) : pX12_isWhole (sX12_values v x) = pX12_isWhole v := rfl
theorem q12_bound_values (v : BX12) (x : (Nat → Int64)) : pX12_bound (sX12_values v x) = pX12_bound v := rfl
theorem q12_over_values (v : BX12) (x : (Nat → Int64)) : pX12_over (sX12_values v x) = pX12_over v := rfl
theorem q12_ticks_values (v : BX12) (x : (Nat → Int64)) : pX12_ticks (sX12_values v x) = pX12_ticks v := rfl
theorem q12_atX_values (v : BX12) (x : (Nat → Int64)) : pX12_atX (sX12_values v x) = pX12_atX v := rfl
theorem q12_atY_values (v : BX12) (x : (Nat → Int64)) : pX12_atY (sX12_values v x) = pX12_atY v := rfl
theorem q12_heading_values (v : BX12) (x : (Nat → Int64)) : pX12_heading (sX12_values v x) = pX12_heading v := rfl
theorem q12_hit_values (v : BX12) (x : (Nat → Int64)) : pX12_hit (sX12_values v x) = pX12_hit v := rfl
theorem q12_rested_values (v : BX12) (x : (Nat → Int64)) : pX12_rested (sX12_values v x) = pX12_rested v := rfl
theorem q12_now_values (v : BX12) (x : (Nat → Int64)) : pX12_now (sX12_values v x) = pX12_now v := rfl
theorem q12_turn_values (v : BX12) (x : (Nat → Int64)) : pX12_turn (sX12_values v x) = pX12_turn v := rfl
theorem q12_go_values (v : BX12) (x : (Nat → Int64)) : pX12_go (sX12_values v x) = pX12_go v := rfl
theorem q12_a_values (v : BX12) (x : (Nat → Int64)) : pX12_a (sX12_values v x) = pX12_a v := rfl
theorem q12_image_values (v : BX12) (x : (Nat → Int64)) : pX12_image (sX12_values v x) = pX12_image v := rfl
theorem q12_texts_values (v : BX12) (x : (Nat → Int64)) : pX12_texts (sX12_values v x) = pX12_texts v := rfl
theorem q12_board_values (v : BX12) (x : (Nat → Int64)) : pX12_board (sX12_values v x) = pX12_board v := rfl
theorem q12_taken_values (v : BX12) (x : (Nat → Int64)) : pX12_taken (sX12_values v x) = pX12_taken v := rfl
theorem q12_fars_values (v : BX12) (x : (Nat → Int64)) : pX12_fars (sX12_values v x) = pX12_fars v := rfl
theorem q12_before_values (v : BX12) (x : (Nat → Int64)) : pX12_before (sX12_values v x) = pX12_before v := rfl
theorem q12_tape_values (v : BX12) (x : (Nat → Int64)) : pX12_tape (sX12_values v x) = pX12_tape v := rfl
theorem q12_pile_values (v : BX12) (x : (Nat → Int64)) : pX12_pile (sX12_values v x) = pX12_pile v := rfl
theorem q12_rows_values (v : BX12) (x : (Nat → Int64)) : pX12_rows (sX12_values v x) = pX12_rows v := rfl
theorem q12_told_values (v : BX12) (x : (Nat → Int64)) : pX12_told (sX12_values v x) = pX12_told v := rfl
theorem q12_values_values (v : BX12) (x : (Nat → Int64)) : pX12_values (sX12_values v x) = x := rfl
theorem q12_truth_values (v : BX12) (x : (Nat → Int64)) : pX12_truth (sX12_values v x) = pX12_truth v := rfl
theorem q12_keeps_values (v : BX12) (x : (Nat → Int64)) : pX12_keeps (sX12_values v x) = pX12_keeps v := rfl
theorem q12_w_truth (v : BX12) (x : (Nat → Int32)) : pX12_w (sX12_truth v x) = pX12_w v := rfl
theorem q12_h_truth (v : BX12) (x : (Nat → Int32)) : pX12_h (sX12_truth v x) = pX12_h v := rfl
theorem q12_taped_truth (v : BX12) (x : (Nat → Int32)) : pX12_taped (sX12_truth v x) = pX12_taped v := rfl
theorem q12_fault_truth (v : BX12) (x : (Nat → Int32)) : pX12_fault (sX12_truth v x) = pX12_fault v := rfl
theorem q12_faultPlace_truth (v : BX12) (x : (Nat → Int32)) : pX12_faultPlace (sX12_truth v x) = pX12_faultPlace v := rfl
theorem q12_at_truth (v : BX12) (x : (Nat → Int32)) : pX12_at (sX12_truth v x) = pX12_at v := rfl
theorem q12_place_truth (v : BX12) (x : (Nat → Int32)) : pX12_place (sX12_truth v x) = pX12_place v := rfl
theorem q12_token_truth (v : BX12) (x : (Nat → Int32)) : pX12_token (sX12_truth v x) = pX12_token v := rfl
theorem q12_number_truth (v : BX12) (x : (Nat → Int32)) : pX12_number (sX12_truth v x) = pX12_number v := rfl
theorem q12_word_truth (v : BX12) (x : (Nat → Int32)) : pX12_word (sX12_truth v x) = pX12_word v := rfl
theorem q12_text0_truth (v : BX12) (x : (Nat → Int32)) : pX12_text0 (sX12_truth v x) = pX12_text0 v := rfl
theorem q12_clauses_truth (v : BX12) (x : (Nat → Int32)) : pX12_clauses (sX12_truth v x) = pX12_clauses v := rfl
theorem q12_written_truth (v : BX12) (x : (Nat → Int32)) : pX12_written (sX12_truth v x) = pX12_written v := rfl
theorem q12_came_truth (v : BX12) (x : (Nat → Int32)) : pX12_came (sX12_truth v x) = pX12_came v := rfl
theorem q12_letters_truth (v : BX12) (x : (Nat → Int32)) : pX12_letters (sX12_truth v x) = pX12_letters v := rfl
theorem q12_piled_truth (v : BX12) (x : (Nat → Int32)) : pX12_piled (sX12_truth v x) = pX12_piled v := rfl
theorem q12_opens_truth (v : BX12) (x : (Nat → Int32)) : pX12_opens (sX12_truth v x) = pX12_opens v := rfl
theorem q12_isWhole_truth (v : BX12) (x : (Nat → Int32)) : pX12_isWhole (sX12_truth v x) = pX12_isWhole v := rfl
theorem q12_bound_truth (v : BX12) (x : (Nat → Int32)) : pX12_bound (sX12_truth v x) = pX12_bound v := rfl
theorem q12_over_truth (v : BX12) (x : (Nat → Int32)) : pX12_over (sX12_truth v x) = pX12_over v := rfl
theorem q12_ticks_truth (v : BX12) (x : (Nat → Int32)) : pX12_ticks (sX12_truth v x) = pX12_ticks v := rfl
theorem q12_atX_truth (v : BX12) (x : (Nat → Int32)) : pX12_atX (sX12_truth v x) = pX12_atX v := rfl
theorem q12_atY_truth (v : BX12) (x : (Nat → Int32)) : pX12_atY (sX12_truth v x) = pX12_atY v := rfl
theorem q12_heading_truth (v : BX12) (x : (Nat → Int32)) : pX12_heading (sX12_truth v x) = pX12_heading v := rfl
theorem q12_hit_truth (v : BX12) (x : (Nat → Int32)) : pX12_hit (sX12_truth v x) = pX12_hit v := rfl
theorem q12_rested_truth (v : BX12) (x : (Nat → Int32)) : pX12_rested (sX12_truth v x) = pX12_rested v := rfl
theorem q12_now_truth (v : BX12) (x : (Nat → Int32)) : pX12_now (sX12_truth v x) = pX12_now v := rfl
theorem q12_turn_truth (v : BX12) (x : (Nat → Int32)) : pX12_turn (sX12_truth v x) = pX12_turn v := rfl
theorem q12_go_truth (v : BX12) (x : (Nat → Int32)) : pX12_go (sX12_truth v x) = pX12_go v := rfl
theorem q12_a_truth (v : BX12) (x : (Nat → Int32)) : pX12_a (sX12_truth v x) = pX12_a v := rfl
theorem q12_image_truth (v : BX12) (x : (Nat → Int32)) : pX12_image (sX12_truth v x) = pX12_image v := rfl
theorem q12_texts_truth (v : BX12) (x : (Nat → Int32)) : pX12_texts (sX12_truth v x) = pX12_texts v := rfl
theorem q12_board_truth (v : BX12) (x : (Nat → Int32)) : pX12_board (sX12_truth v x) = pX12_board v := rfl
theorem q12_taken_truth (v : BX12) (x : (Nat → Int32)) : pX12_taken (sX12_truth v x) = pX12_taken v := rfl
theorem q12_fars_truth (v : BX12) (x : (Nat → Int32)) : pX12_fars (sX12_truth v x) = pX12_fars v := rfl
theorem q12_before_truth (v : BX12) (x : (Nat → Int32)) : pX12_before (sX12_truth v x) = pX12_before v := rfl
theorem q12_tape_truth (v : BX12) (x : (Nat → Int32)) : pX12_tape (sX12_truth v x) = pX12_tape v := rfl
theorem q12_pile_truth (v : BX12) (x : (Nat → Int32)) : pX12_pile (sX12_truth v x) = pX12_pile v := rfl
theorem q12_rows_truth (v : BX12) (x : (Nat → Int32)) : pX12_rows (sX12_truth v x) = pX12_rows v := rfl
theorem q12_told_truth (v : BX12) (x : (Nat → Int32)) : pX12_told (sX12_truth v x) = pX12_told v := rfl
theorem q12_values_truth (v : BX12) (x : (Nat → Int32)) : pX12_values (sX12_truth v x) = pX12_values v := rfl
theorem q12_truth_truth (v : BX12) (x : (Nat → Int32)) : pX12_truth (sX12_truth v x) = x := rfl
theorem q12_keeps_truth (v : BX12) (x : (Nat → Int32)) : pX12_keeps (sX12_truth v x) = pX12_keeps v := rfl
theorem q12_w_keeps (v : BX12) (x : (Nat → Int32)) : pX12_w (sX12_keeps v x) = pX12_w v := rfl
theorem q12_h_keeps (v : BX12) (x : (Nat → Int32)) : pX12_h (sX12_keeps v x) = pX12_h v := rfl
theorem q12_taped_keeps (v : BX12) (x : (Nat → Int32)) : pX12_taped (sX12_keeps v x) = pX12_taped v := rfl
theorem q12_fault_keeps (v : BX12) (x : (Nat → Int32)) : pX12_fault (sX12_keeps v x) = pX12_fault v := rfl
theorem q12_faultPlace_keeps (v : BX12) (x : (Nat → Int32)) : pX12_faultPlace (sX12_keeps v x) = pX12_faultPlace v := rfl
theorem q12_at_keeps (v : BX12) (x : (Nat → Int32)) : pX12_at (sX12_keeps v x) = pX12_at v := rfl
theorem q12_place_keeps (v : BX12) (x : (Nat → Int32)) : pX12_place (sX12_keeps v x) = pX12_place v := rfl
theorem q12_token_keeps (v : BX12) (x : (Nat → Int32)) : pX12_token (sX12_keeps v x) = pX12_token v := rfl
theorem q12_number_keeps (v : BX12) (x : (Nat → Int32)) : pX12_number (sX12_keeps v x) = pX12_number v := rfl
theorem q12_word_keeps (v : BX12) (x : (Nat → Int32)) : pX12_word (sX12_keeps v x) = pX12_word v := rfl
theorem q12_text0_keeps (v : BX12) (x : (Nat → Int32)) : pX12_text0 (sX12_keeps v x) = pX12_text0 v := rfl
theorem q12_clauses_keeps (v : BX12) (x : (Nat → Int32)) : pX12_clauses (sX12_keeps v x) = pX12_clauses v := rfl
theorem q12_written_keeps (v : BX12) (x : (Nat → Int32)) : pX12_written (sX12_keeps v x) = pX12_written v := rfl
theorem q12_came_keeps (v : BX12) (x : (Nat → Int32)) : pX12_came (sX12_keeps v x) = pX12_came v := rfl
theorem q12_letters_keeps (v : BX12) (x : (Nat → Int32)) : pX12_letters (sX12_keeps v x) = pX12_letters v := rfl
theorem q12_piled_keeps (v : BX12) (x : (Nat → Int32)) : pX12_piled (sX12_keeps v x) = pX12_piled v := rfl
theorem q12_opens_keeps (v : BX12) (x : (Nat → Int32)) : pX12_opens (sX12_keeps v x) = pX12_opens v := rfl
theorem q12_isWhole_keeps (v : BX12) (x : (Nat → Int32)) : pX12_isWhole (sX12_keeps v x) = pX12_isWhole v := rfl
theorem q12_bound_keeps (v : BX12) (x : (Nat → Int32)) : pX12_bound (sX12_keeps v x) = pX12_bound v := rfl
theorem q12_over_keeps (v : BX12) (x : (Nat → Int32)) : pX12_over (sX12_keeps v x) = pX12_over v := rfl
theorem q12_ticks_keeps (v : BX12) (x : (Nat → Int32)) : pX12_ticks (sX12_keeps v x) = pX12_ticks v := rfl
theorem q12_atX_keeps (v : BX12) (x : (Nat → Int32)) : pX12_atX (sX12_keeps v x) = pX12_atX v := rfl
theorem q12_atY_keeps (v : BX12) (x : (Nat → Int32)) : pX12_atY (sX12_keeps v x) = pX12_atY v := rfl
theorem q12_heading_keeps (v : BX12) (x : (Nat → Int32)) : pX12_heading (sX12_keeps v x) = pX12_heading v := rfl
theorem q12_hit_keeps (v : BX12) (x : (Nat → Int32)) : pX12_hit (sX12_keeps v x) = pX12_hit v := rfl
theorem q12_rested_keeps (v : BX12) (x : (Nat → Int32)) : pX12_rested (sX12_keeps v x) = pX12_rested v := rfl
theorem q12_now_keeps (v : BX12) (x : (Nat → Int32)) : pX12_now (sX12_keeps v x) = pX12_now v := rfl
theorem q12_turn_keeps (v : BX12) (x : (Nat → Int32)) : pX12_turn (sX12_keeps v x) = pX12_turn v := rfl
theorem q12_go_keeps (v : BX12) (x : (Nat → Int32)) : pX12_go (sX12_keeps v x) = pX12_go v := rfl
theorem q12_a_keeps (v : BX12) (x : (Nat → Int32)) : pX12_a (sX12_keeps v x) = pX12_a v := rfl
theorem q12_image_keeps (v : BX12) (x : (Nat → Int32)) : pX12_image (sX12_keeps v x) = pX12_image v := rfl
theorem q12_texts_keeps (v : BX12) (x : (Nat → Int32)) : pX12_texts (sX12_keeps v x) = pX12_texts v := rfl
theorem q12_board_keeps (v : BX12) (x : (Nat → Int32)) : pX12_board (sX12_keeps v x) = pX12_board v := rfl
theorem q12_taken_keeps (v : BX12) (x : (Nat → Int32)) : pX12_taken (sX12_keeps v x) = pX12_taken v := rfl
theorem q12_fars_keeps (v : BX12) (x : (Nat → Int32)) : pX12_fars (sX12_keeps v x) = pX12_fars v := rfl
theorem q12_before_keeps (v : BX12) (x : (Nat → Int32)) : pX12_before (sX12_keeps v x) = pX12_before v := rfl
theorem q12_tape_keeps (v : BX12) (x : (Nat → Int32)) : pX12_tape (sX12_keeps v x) = pX12_tape v := rfl
theorem q12_pile_keeps (v : BX12) (x : (Nat → Int32)) : pX12_pile (sX12_keeps v x) = pX12_pile v := rfl
theorem q12_rows_keeps (v : BX12) (x : (Nat → Int32)) : pX12_rows (sX12_keeps v x) = pX12_rows v := rfl
theorem q12_told_keeps (v : BX12) (x : (Nat → Int32)) : pX12_told (sX12_keeps v x) = pX12_told v := rfl
theorem q12_values_keeps (v : BX12) (x : (Nat → Int32)) : pX12_values (sX12_keeps v x) = pX12_values v := rfl
theorem q12_truth_keeps (v : BX12) (x : (Nat → Int32)) : pX12_truth (sX12_keeps v x) = pX12_truth v := rfl
theorem q12_keeps_keeps (v : BX12) (x : (Nat → Int32)) : pX12_keeps (sX12_keeps v x) = x := rfl
def FrL (m r : BX12) : Prop := pX12_w r = pX12_w m ∧ pX12_h r = pX12_h m ∧ pX12_taped r = pX12_taped m ∧ pX12_fault r = pX12_fault m ∧ pX12_faultPlace r = pX12_faultPlace m ∧ pX12_a r = pX12_a m ∧ pX12_image r = pX12_image m ∧ pX12_texts r = pX12_texts m ∧ pX12_tape r = pX12_tape m ∧ pX12_bound r = pX12_bound m ∧ pX12_over r = pX12_over m ∧ pX12_ticks r = pX12_ticks m ∧ pX12_atX r = pX12_atX m ∧ pX12_atY r = pX12_atY m ∧ pX12_heading r = pX12_heading m ∧ pX12_hit r = pX12_hit m ∧ pX12_rested r = pX12_rested m ∧ pX12_now r = pX12_now m ∧ pX12_turn r = pX12_turn m ∧ pX12_go r = pX12_go m ∧ pX12_rows r = pX12_rows m ∧ pX12_told r = pX12_told m ∧ pX12_values r = pX12_values m ∧ pX12_truth r = pX12_truth m ∧ pX12_keeps r = pX12_keeps m ∧ pX12_before r = pX12_before m
theorem FrL.refl (m : BX12) : FrL m m := ⟨rfl, rfl, rfl, rfl, rfl, rfl, rfl, rfl, rfl, rfl, rfl, rfl, rfl, rfl, rfl, rfl, rfl, rfl, rfl, rfl, rfl, rfl, rfl, rfl, rfl, rfl⟩
theorem FrL.w {m r : BX12} (h : FrL m r) : pX12_w r = pX12_w m := h.1
theorem FrL.h {m r : BX12} (h : FrL m r) : pX12_h r = pX12_h m := h.2.1
theorem FrL.taped {m r : BX12} (h : FrL m r) : pX12_taped r = pX12_taped m := h.2.2.1
theorem FrL.fault {m r : BX12} (h : FrL m r) : pX12_fault r = pX12_fault m := h.2.2.2.1
theorem FrL.faultPlace {m r : BX12} (h : FrL m r) : pX12_faultPlace r = pX12_faultPlace m := h.2.2.2.2.1
theorem FrL.a {m r : BX12} (h : FrL m r) : pX12_a r = pX12_a m := h.2.2.2.2.2.1
theorem FrL.image {m r : BX12} (h : FrL m r) : pX12_image r = pX12_image m := h.2.2.2.2.2.2.1
theorem FrL.texts {m r : BX12} (h : FrL m r) : pX12_texts r = pX12_texts m := h.2.2.2.2.2.2.2.1
theorem FrL.tape {m r : BX12} (h : FrL m r) : pX12_tape r = pX12_tape m := h.2.2.2.2.2.2.2.2.1
theorem FrL.bound {m r : BX12} (h : FrL m r) : pX12_bound r = pX12_bound m := h.2.2.2.2.2.2.2.2.2.1
theorem FrL.over {m r : BX12} (h : FrL m r) : pX12_over r = pX12_over m := h.2.2.2.2.2.2.2.2.2.2.1
theorem FrL.ticks {m r : BX12} (h : FrL m r) : pX12_ticks r = pX12_ticks m := h.2.2.2.2.2.2.2.2.2.2.2.1
theorem FrL.atX {m r : BX12} (h : FrL m r) : pX12_atX r = pX12_atX m := h.2.2.2.2.2.2.2.2.2.2.2.2.1
theorem FrL.atY {m r : BX12} (h : FrL m r) : pX12_atY r = pX12_atY m := h.2.2.2.2.2.2.2.2.2.2.2.2.2.1
theorem FrL.heading {m r : BX12} (h : FrL m r) : pX12_heading r = pX12_heading m := h.2.2.2.2.2.2.2.2.2.2.2.2.2.2.1
theorem FrL.hit {m r : BX12} (h : FrL m r) : pX12_hit r = pX12_hit m := h.2.2.2.2.2.2.2.2.2.2.2.2.2.2.2.1
theorem FrL.rested {m r : BX12} (h : FrL m r) : pX12_rested r = pX12_rested m := h.2.2.2.2.2.2.2.2.2.2.2.2.2.2.2.2.1
theorem FrL.now {m r : BX12} (h : FrL m r) : pX12_now r = pX12_now m := h.2.2.2.2.2.2.2.2.2.2.2.2.2.2.2.2.2.1
theorem FrL.turn {m r : BX12} (h : FrL m r) : pX12_turn r = pX12_turn m := h.2.2.2.2.2.2.2.2.2.2.2.2.2.2.2.2.2.2.1
theorem FrL.go {m r : BX12} (h : FrL m r) : pX12_go r = pX12_go m := h.2.2.2.2.2.2.2.2.2.2.2.2.2.2.2.2.2.2.2.1
theorem FrL.rows {m r : BX12} (h : FrL m r) : pX12_rows r = pX12_rows m := h.2.2.2.2.2.2.2.2.2.2.2.2.2.2.2.2.2.2.2.2.1
theorem FrL.told {m r : BX12} (h : FrL m r) : pX12_told r = pX12_told m := h.2.2.2.2.2.2.2.2.2.2.2.2.2.2.2.2.2.2.2.2.2.1
theorem FrL.values {m r : BX12} (h : FrL m r) : pX12_values r = pX12_values m := h.2.2.2.2.2.2.2.2.2.2.2.2.2.2.2.2.2.2.2.2.2.2.1
theorem FrL.truth {m r : BX12} (h : FrL m r) : pX12_truth r = pX12_truth m := h.2.2.2.2.2.2.2.2.2.2.2.2.2.2.2.2.2.2.2.2.2.2.2.1
theorem FrL.keeps {m r : BX12} (h : FrL m r) : pX12_keeps r = pX12_keeps m := h.2.2.2.2.2.2.2.2.2.2.2.2.2.2.2.2.2.2.2.2.2.2.2.2.1
theorem FrL.before {m r : BX12} (h : FrL m r) : pX12_before r = pX12_before m := h.2.2.2.2.2.2.2.2.2.2.2.2.2.2.2.2.2.2.2.2.2.2.2.2.2
theorem FrL.trans {m r q : BX12} (h : FrL m r) (g : FrL r q) : FrL m q := ⟨g.w.trans h.w, g.h.trans h.h, g.taped.trans h.taped, g.fault.trans h.fault, g.faultPlace.trans h.faultPlace, g.a.trans h.a, g.image.trans h.image, g.texts.trans h.texts, g.tape.trans h.tape, g.bound.trans h.bound, g.over.trans h.over, g.ticks.trans h.ticks, g.atX.trans h.atX, g.atY.trans h.atY, g.heading.trans h.heading, g.hit.trans h.hit, g.rested.trans h.rested, g.now.trans h.now, g.turn.trans h.turn, g.go.trans h.go, g.rows.trans h.rows, g.told.trans h.told, g.values.trans h.values, g.truth.trans h.truth, g.keeps.trans h.keeps, g.before.trans h.before⟩
theorem FrL.s_board {m r : BX12} (h : FrL m r) (x : (Nat → Int32)) : FrL m (sX12_board r x) := ⟨(q12_w_board r x).trans h.w, (q12_h_board r x).trans h.h, (q12_taped_board r x).trans h.taped, (q12_fault_board r x).trans h.fault, (q12_faultPlace_board r x).trans h.faultPlace, (q12_a_board r x).trans h.a, (q12_image_board r x).trans h.image, (q12_texts_board r x).trans h.texts, (q12_tape_board r x).trans h.tape, (q12_bound_board r x).trans h.bound, (q12_over_board r x).trans h.over, (q12_ticks_board r x).trans h.ticks, (q12_atX_board r x).trans h.atX, (q12_atY_board r x).trans h.atY, (q12_heading_board r x).trans h.heading, (q12_hit_board r x).trans h.hit, (q12_rested_board r x).trans h.rested, (q12_now_board r x).trans h.now, (q12_turn_board r x).trans h.turn, (q12_go_board r x).trans h.go, (q12_rows_board r x).trans h.rows, (q12_told_board r x).trans h.told, (q12_values_board r x).trans h.values, (q12_truth_board r x).trans h.truth, (q12_keeps_board r x).trans h.keeps, (q12_before_board r x).trans h.before⟩
theorem FrL.s_taken {m r : BX12} (h : FrL m r) (x : (Nat → Int32)) : FrL m (sX12_taken r x) := ⟨(q12_w_taken r x).trans h.w, (q12_h_taken r x).trans h.h, (q12_taped_taken r x).trans h.taped, (q12_fault_taken r x).trans h.fault, (q12_faultPlace_taken r x).trans h.faultPlace, (q12_a_taken r x).trans h.a, (q12_image_taken r x).trans h.image, (q12_texts_taken r x).trans h.texts, (q12_tape_taken r x).trans h.tape, (q12_bound_taken r x).trans h.bound, (q12_over_taken r x).trans h.over, (q12_ticks_taken r x).trans h.ticks, (q12_atX_taken r x).trans h.atX, (q12_atY_taken r x).trans h.atY, (q12_heading_taken r x).trans h.heading, (q12_hit_taken r x).trans h.hit, (q12_rested_taken r x).trans h.rested, (q12_now_taken r x).trans h.now, (q12_turn_taken r x).trans h.turn, (q12_go_taken r x).trans h.go, (q12_rows_taken r x).trans h.rows, (q12_told_taken r x).trans h.told, (q12_values_taken r x).trans h.values, (q12_truth_taken r x).trans h.truth, (q12_keeps_taken r x).trans h.keeps, (q12_before_taken r x).trans h.before⟩
theorem FrL.s_fars {m r : BX12} (h : FrL m r) (x : (Nat → Int32)) : FrL m (sX12_fars r x) := ⟨(q12_w_fars r x).trans h.w, (q12_h_fars r x).trans h.h, (q12_taped_fars r x).trans h.taped, (q12_fault_fars r x).trans h.fault, (q12_faultPlace_fars r x).trans h.faultPlace, (q12_a_fars r x).trans h.a, (q12_image_fars r x).trans h.image, (q12_texts_fars r x).trans h.texts, (q12_tape_fars r x).trans h.tape, (q12_bound_fars r x).trans h.bound, (q12_over_fars r x).trans h.over, (q12_ticks_fars r x).trans h.ticks, (q12_atX_fars r x).trans h.atX, (q12_atY_fars r x).trans h.atY, (q12_heading_fars r x).trans h.heading, (q12_hit_fars r x).trans h.hit, (q12_rested_fars r x).trans h.rested, (q12_now_fars r x).trans h.now, (q12_turn_fars r x).trans h.turn, (q12_go_fars r x).trans h.go, (q12_rows_fars r x).trans h.rows, (q12_told_fars r x).trans h.told, (q12_values_fars r x).trans h.values, (q12_truth_fars r x).trans h.truth, (q12_keeps_fars r x).trans h.keeps, (q12_before_fars r x).trans h.before⟩
def FrP (m r : BX12) : Prop := pX12_w r = pX12_w m ∧ pX12_h r = pX12_h m ∧ pX12_taped r = pX12_taped m ∧ pX12_fault r = pX12_fault m ∧ pX12_faultPlace r = pX12_faultPlace m ∧ pX12_a r = pX12_a m ∧ pX12_image r = pX12_image m ∧ pX12_texts r = pX12_texts m ∧ pX12_tape r = pX12_tape m
theorem FrP.refl (m : BX12) : FrP m m := ⟨rfl, rfl, rfl, rfl, rfl, rfl, rfl, rfl, rfl⟩
theorem FrP.w {m r : BX12} (h : FrP m r) : pX12_w r = pX12_w m := h.1
theorem FrP.h {m r : BX12} (h : FrP m r) : pX12_h r = pX12_h m := h.2.1
theorem FrP.taped {m r : BX12} (h : FrP m r) : pX12_taped r = pX12_taped m := h.2.2.1
theorem FrP.fault {m r : BX12} (h : FrP m r) : pX12_fault r = pX12_fault m := h.2.2.2.1
theorem FrP.faultPlace {m r : BX12} (h : FrP m r) : pX12_faultPlace r = pX12_faultPlace m := h.2.2.2.2.1
theorem FrP.a {m r : BX12} (h : FrP m r) : pX12_a r = pX12_a m := h.2.2.2.2.2.1
theorem FrP.image {m r : BX12} (h : FrP m r) : pX12_image r = pX12_image m := h.2.2.2.2.2.2.1
theorem FrP.texts {m r : BX12} (h : FrP m r) : pX12_texts r = pX12_texts m := h.2.2.2.2.2.2.2.1
theorem FrP.tape {m r : BX12} (h : FrP m r) : pX12_tape r = pX12_tape m := h.2.2.2.2.2.2.2.2
theorem FrP.trans {m r q : BX12} (h : FrP m r) (g : FrP r q) : FrP m q := ⟨g.w.trans h.w, g.h.trans h.h, g.taped.trans h.taped, g.fault.trans h.fault, g.faultPlace.trans h.faultPlace, g.a.trans h.a, g.image.trans h.image, g.texts.trans h.texts, g.tape.trans h.tape⟩
theorem FrP.s_bound {m r : BX12} (h : FrP m r) (x : Int64) : FrP m (sX12_bound r x) := ⟨(q12_w_bound r x).trans h.w, (q12_h_bound r x).trans h.h, (q12_taped_bound r x).trans h.taped, (q12_fault_bound r x).trans h.fault, (q12_faultPlace_bound r x).trans h.faultPlace, (q12_a_bound r x).trans h.a, (q12_image_bound r x).trans h.image, (q12_texts_bound r x).trans h.texts, (q12_tape_bound r x).trans h.tape⟩
theorem FrP.s_over {m r : BX12} (h : FrP m r) (x : Int32) : FrP m (sX12_over r x) := ⟨(q12_w_over r x).trans h.w, (q12_h_over r x).trans h.h, (q12_taped_over r x).trans h.taped, (q12_fault_over r x).trans h.fault, (q12_faultPlace_over r x).trans h.faultPlace, (q12_a_over r x).trans h.a, (q12_image_over r x).trans h.image, (q12_texts_over r x).trans h.texts, (q12_tape_over r x).trans h.tape⟩
theorem FrP.s_ticks {m r : BX12} (h : FrP m r) (x : Int32) : FrP m (sX12_ticks r x) := ⟨(q12_w_ticks r x).trans h.w, (q12_h_ticks r x).trans h.h, (q12_taped_ticks r x).trans h.taped, (q12_fault_ticks r x).trans h.fault, (q12_faultPlace_ticks r x).trans h.faultPlace, (q12_a_ticks r x).trans h.a, (q12_image_ticks r x).trans h.image, (q12_texts_ticks r x).trans h.texts, (q12_tape_ticks r x).trans h.tape⟩
theorem FrP.s_atX {m r : BX12} (h : FrP m r) (x : Int32) : FrP m (sX12_atX r x) := ⟨(q12_w_atX r x).trans h.w, (q12_h_atX r x).trans h.h, (q12_taped_atX r x).trans h.taped, (q12_fault_atX r x).trans h.fault, (q12_faultPlace_atX r x).trans h.faultPlace, (q12_a_atX r x).trans h.a, (q12_image_atX r x).trans h.image, (q12_texts_atX r x).trans h.texts, (q12_tape_atX r x).trans h.tape⟩
theorem FrP.s_atY {m r : BX12} (h : FrP m r) (x : Int32) : FrP m (sX12_atY r x) := ⟨(q12_w_atY r x).trans h.w, (q12_h_atY r x).trans h.h, (q12_taped_atY r x).trans h.taped, (q12_fault_atY r x).trans h.fault, (q12_faultPlace_atY r x).trans h.faultPlace, (q12_a_atY r x).trans h.a, (q12_image_atY r x).trans h.image, (q12_texts_atY r x).trans h.texts, (q12_tape_atY r x).trans h.tape⟩
theorem FrP.s_heading {m r : BX12} (h : FrP m r) (x : Int32) : FrP m (sX12_heading r x) := ⟨(q12_w_heading r x).trans h.w, (q12_h_heading r x).trans h.h, (q12_taped_heading r x).trans h.taped, (q12_fault_heading r x).trans h.fault, (q12_faultPlace_heading r x).trans h.faultPlace, (q12_a_heading r x).trans h.a, (q12_image_heading r x).trans h.image, (q12_texts_heading r x).trans h.texts, (q12_tape_heading r x).trans h.tape⟩
theorem FrP.s_hit {m r : BX12} (h : FrP m r) (x : Int32) : FrP m (sX12_hit r x) := ⟨(q12_w_hit r x).trans h.w, (q12_h_hit r x).trans h.h, (q12_taped_hit r x).trans h.taped, (q12_fault_hit r x).trans h.fault, (q12_faultPlace_hit r x).trans h.faultPlace, (q12_a_hit r x).trans h.a, (q12_image_hit r x).trans h.image, (q12_texts_hit r x).trans h.texts, (q12_tape_hit r x).trans h.tape⟩
theorem FrP.s_rested {m r : BX12} (h : FrP m r) (x : Int32) : FrP m (sX12_rested r x) := ⟨(q12_w_rested r x).trans h.w, (q12_h_rested r x).trans h.h, (q12_taped_rested r x).trans h.taped, (q12_fault_rested r x).trans h.fault, (q12_faultPlace_rested r x).trans h.faultPlace, (q12_a_rested r x).trans h.a, (q12_image_rested r x).trans h.image, (q12_texts_rested r x).trans h.texts, (q12_tape_rested r x).trans h.tape⟩
theorem FrP.s_now {m r : BX12} (h : FrP m r) (x : Int32) : FrP m (sX12_now r x) := ⟨(q12_w_now r x).trans h.w, (q12_h_now r x).trans h.h, (q12_taped_now r x).trans h.taped, (q12_fault_now r x).trans h.fault, (q12_faultPlace_now r x).trans h.faultPlace, (q12_a_now r x).trans h.a, (q12_image_now r x).trans h.image, (q12_texts_now r x).trans h.texts, (q12_tape_now r x).trans h.tape⟩
theorem FrP.s_turn {m r : BX12} (h : FrP m r) (x : Int32) : FrP m (sX12_turn r x) := ⟨(q12_w_turn r x).trans h.w, (q12_h_turn r x).trans h.h, (q12_taped_turn r x).trans h.taped, (q12_fault_turn r x).trans h.fault, (q12_faultPlace_turn r x).trans h.faultPlace, (q12_a_turn r x).trans h.a, (q12_image_turn r x).trans h.image, (q12_texts_turn r x).trans h.texts, (q12_tape_turn r x).trans h.tape⟩
theorem FrP.s_go {m r : BX12} (h : FrP m r) (x : Int32) : FrP m (sX12_go r x) := ⟨(q12_w_go r x).trans h.w, (q12_h_go r x).trans h.h, (q12_taped_go r x).trans h.taped, (q12_fault_go r x).trans h.fault, (q12_faultPlace_go r x).trans h.faultPlace, (q12_a_go r x).trans h.a, (q12_image_go r x).trans h.image, (q12_texts_go r x).trans h.texts, (q12_tape_go r x).trans h.tape⟩
theorem FrP.s_rows {m r : BX12} (h : FrP m r) (x : (Nat → Int32)) : FrP m (sX12_rows r x) := ⟨(q12_w_rows r x).trans h.w, (q12_h_rows r x).trans h.h, (q12_taped_rows r x).trans h.taped, (q12_fault_rows r x).trans h.fault, (q12_faultPlace_rows r x).trans h.faultPlace, (q12_a_rows r x).trans h.a, (q12_image_rows r x).trans h.image, (q12_texts_rows r x).trans h.texts, (q12_tape_rows r x).trans h.tape⟩
theorem FrP.s_told {m r : BX12} (h : FrP m r) (x : (Nat → Int32)) : FrP m (sX12_told r x) := ⟨(q12_w_told r x).trans h.w, (q12_h_told r x).trans h.h, (q12_taped_told r x).trans h.taped, (q12_fault_told r x).trans h.fault, (q12_faultPlace_told r x).trans h.faultPlace, (q12_a_told r x).trans h.a, (q12_image_told r x).trans h.image, (q12_texts_told r x).trans h.texts, (q12_tape_told r x).trans h.tape⟩
theorem FrP.s_values {m r : BX12} (h : FrP m r) (x : (Nat → Int64)) : FrP m (sX12_values r x) := ⟨(q12_w_values r x).trans h.w, (q12_h_values r x).trans h.h, (q12_taped_values r x).trans h.taped, (q12_fault_values r x).trans h.fault, (q12_faultPlace_values r x).trans h.faultPlace, (q12_a_values r x).trans h.a, (q12_image_values r x).trans h.image, (q12_texts_values r x).trans h.texts, (q12_tape_values r x).trans h.tape⟩
theorem FrP.s_truth {m r : BX12} (h : FrP m r) (x : (Nat → Int32)) : FrP m (sX12_truth r x) := ⟨(q12_w_truth r x).trans h.w, (q12_h_truth r x).trans h.h, (q12_taped_truth r x).trans h.taped, (q12_fault_truth r x).trans h.fault, (q12_faultPlace_truth r x).trans h.faultPlace, (q12_a_truth r x).trans h.a, (q12_image_truth r x).trans h.image, (q12_texts_truth r x).trans h.texts, (q12_tape_truth r x).trans h.tape⟩
theorem FrP.s_keeps {m r : BX12} (h : FrP m r) (x : (Nat → Int32)) : FrP m (sX12_keeps r x) := ⟨(q12_w_keeps r x).trans h.w, (q12_h_keeps r x).trans h.h, (q12_taped_keeps r x).trans h.taped, (q12_fault_keeps r x).trans h.fault, (q12_faultPlace_keeps r x).trans h.faultPlace, (q12_a_keeps r x).trans h.a, (q12_image_keeps r x).trans h.image, (q12_texts_keeps r x).trans h.texts, (q12_tape_keeps r x).trans h.tape⟩
theorem FrP.s_before {m r : BX12} (h : FrP m r) (x : (Nat → Int32)) : FrP m (sX12_before r x) := ⟨(q12_w_before r x).trans h.w, (q12_h_before r x).trans h.h, (q12_taped_before r x).trans h.taped, (q12_fault_before r x).trans h.fault, (q12_faultPlace_before r x).trans h.faultPlace, (q12_a_before r x).trans h.a, (q12_image_before r x).trans h.image, (q12_texts_before r x).trans h.texts, (q12_tape_before r x).trans h.tape⟩
theorem FrP.s_at {m r : BX12} (h : FrP m r) (x : Int32) : FrP m (sX12_at r x) := ⟨(q12_w_at r x).trans h.w, (q12_h_at r x).trans h.h, (q12_taped_at r x).trans h.taped, (q12_fault_at r x).trans h.fault, (q12_faultPlace_at r x).trans h.faultPlace, (q12_a_at r x).trans h.a, (q12_image_at r x).trans h.image, (q12_texts_at r x).trans h.texts, (q12_tape_at r x).trans h.tape⟩
theorem FrP.s_place {m r : BX12} (h : FrP m r) (x : Int32) : FrP m (sX12_place r x) := ⟨(q12_w_place r x).trans h.w, (q12_h_place r x).trans h.h, (q12_taped_place r x).trans h.taped, (q12_fault_place r x).trans h.fault, (q12_faultPlace_place r x).trans h.faultPlace, (q12_a_place r x).trans h.a, (q12_image_place r x).trans h.image, (q12_texts_place r x).trans h.texts, (q12_tape_place r x).trans h.tape⟩
theorem FrP.s_token {m r : BX12} (h : FrP m r) (x : Int32) : FrP m (sX12_token r x) := ⟨(q12_w_token r x).trans h.w, (q12_h_token r x).trans h.h, (q12_taped_token r x).trans h.taped, (q12_fault_token r x).trans h.fault, (q12_faultPlace_token r x).trans h.faultPlace, (q12_a_token r x).trans h.a, (q12_image_token r x).trans h.image, (q12_texts_token r x).trans h.texts, (q12_tape_token r x).trans h.tape⟩
theorem FrP.s_number {m r : BX12} (h : FrP m r) (x : Int32) : FrP m (sX12_number r x) := ⟨(q12_w_number r x).trans h.w, (q12_h_number r x).trans h.h, (q12_taped_number r x).trans h.taped, (q12_fault_number r x).trans h.fault, (q12_faultPlace_number r x).trans h.faultPlace, (q12_a_number r x).trans h.a, (q12_image_number r x).trans h.image, (q12_texts_number r x).trans h.texts, (q12_tape_number r x).trans h.tape⟩
theorem FrP.s_word {m r : BX12} (h : FrP m r) (x : Int64) : FrP m (sX12_word r x) := ⟨(q12_w_word r x).trans h.w, (q12_h_word r x).trans h.h, (q12_taped_word r x).trans h.taped, (q12_fault_word r x).trans h.fault, (q12_faultPlace_word r x).trans h.faultPlace, (q12_a_word r x).trans h.a, (q12_image_word r x).trans h.image, (q12_texts_word r x).trans h.texts, (q12_tape_word r x).trans h.tape⟩
theorem FrP.s_text0 {m r : BX12} (h : FrP m r) (x : Int32) : FrP m (sX12_text0 r x) := ⟨(q12_w_text0 r x).trans h.w, (q12_h_text0 r x).trans h.h, (q12_taped_text0 r x).trans h.taped, (q12_fault_text0 r x).trans h.fault, (q12_faultPlace_text0 r x).trans h.faultPlace, (q12_a_text0 r x).trans h.a, (q12_image_text0 r x).trans h.image, (q12_texts_text0 r x).trans h.texts, (q12_tape_text0 r x).trans h.tape⟩
theorem FrP.s_clauses {m r : BX12} (h : FrP m r) (x : Int32) : FrP m (sX12_clauses r x) := ⟨(q12_w_clauses r x).trans h.w, (q12_h_clauses r x).trans h.h, (q12_taped_clauses r x).trans h.taped, (q12_fault_clauses r x).trans h.fault, (q12_faultPlace_clauses r x).trans h.faultPlace, (q12_a_clauses r x).trans h.a, (q12_image_clauses r x).trans h.image, (q12_texts_clauses r x).trans h.texts, (q12_tape_clauses r x).trans h.tape⟩
theorem FrP.s_written {m r : BX12} (h : FrP m r) (x : Int32) : FrP m (sX12_written r x) := ⟨(q12_w_written r x).trans h.w, (q12_h_written r x).trans h.h, (q12_taped_written r x).trans h.taped, (q12_fault_written r x).trans h.fault, (q12_faultPlace_written r x).trans h.faultPlace, (q12_a_written r x).trans h.a, (q12_image_written r x).trans h.image, (q12_texts_written r x).trans h.texts, (q12_tape_written r x).trans h.tape⟩
theorem FrP.s_came {m r : BX12} (h : FrP m r) (x : Int32) : FrP m (sX12_came r x) := ⟨(q12_w_came r x).trans h.w, (q12_h_came r x).trans h.h, (q12_taped_came r x).trans h.taped, (q12_fault_came r x).trans h.fault, (q12_faultPlace_came r x).trans h.faultPlace, (q12_a_came r x).trans h.a, (q12_image_came r x).trans h.image, (q12_texts_came r x).trans h.texts, (q12_tape_came r x).trans h.tape⟩
theorem FrP.s_letters {m r : BX12} (h : FrP m r) (x : Int32) : FrP m (sX12_letters r x) := ⟨(q12_w_letters r x).trans h.w, (q12_h_letters r x).trans h.h, (q12_taped_letters r x).trans h.taped, (q12_fault_letters r x).trans h.fault, (q12_faultPlace_letters r x).trans h.faultPlace, (q12_a_letters r x).trans h.a, (q12_image_letters r x).trans h.image, (q12_texts_letters r x).trans h.texts, (q12_tape_letters r x).trans h.tape⟩
theorem FrP.s_piled {m r : BX12} (h : FrP m r) (x : Int32) : FrP m (sX12_piled r x) := ⟨(q12_w_piled r x).trans h.w, (q12_h_piled r x).trans h.h, (q12_taped_piled r x).trans h.taped, (q12_fault_piled r x).trans h.fault, (q12_faultPlace_piled r x).trans h.faultPlace, (q12_a_piled r x).trans h.a, (q12_image_piled r x).trans h.image, (q12_texts_piled r x).trans h.texts, (q12_tape_piled r x).trans h.tape⟩
theorem FrP.s_opens {m r : BX12} (h : FrP m r) (x : Int32) : FrP m (sX12_opens r x) := ⟨(q12_w_opens r x).trans h.w, (q12_h_opens r x).trans h.h, (q12_taped_opens r x).trans h.taped, (q12_fault_opens r x).trans h.fault, (q12_faultPlace_opens r x).trans h.faultPlace, (q12_a_opens r x).trans h.a, (q12_image_opens r x).trans h.image, (q12_texts_opens r x).trans h.texts, (q12_tape_opens r x).trans h.tape⟩
theorem FrP.s_isWhole {m r : BX12} (h : FrP m r) (x : Int32) : FrP m (sX12_isWhole r x) := ⟨(q12_w_isWhole r x).trans h.w, (q12_h_isWhole r x).trans h.h, (q12_taped_isWhole r x).trans h.taped, (q12_fault_isWhole r x).trans h.fault, (q12_faultPlace_isWhole r x).trans h.faultPlace, (q12_a_isWhole r x).trans h.a, (q12_image_isWhole r x).trans h.image, (q12_texts_isWhole r x).trans h.texts, (q12_tape_isWhole r x).trans h.tape⟩
theorem FrP.s_pile {m r : BX12} (h : FrP m r) (x : (Nat → Int32)) : FrP m (sX12_pile r x) := ⟨(q12_w_pile r x).trans h.w, (q12_h_pile r x).trans h.h, (q12_taped_pile r x).trans h.taped, (q12_fault_pile r x).trans h.fault, (q12_faultPlace_pile r x).trans h.faultPlace, (q12_a_pile r x).trans h.a, (q12_image_pile r x).trans h.image, (q12_texts_pile r x).trans h.texts, (q12_tape_pile r x).trans h.tape⟩
theorem FrP.s_board {m r : BX12} (h : FrP m r) (x : (Nat → Int32)) : FrP m (sX12_board r x) := ⟨(q12_w_board r x).trans h.w, (q12_h_board r x).trans h.h, (q12_taped_board r x).trans h.taped, (q12_fault_board r x).trans h.fault, (q12_faultPlace_board r x).trans h.faultPlace, (q12_a_board r x).trans h.a, (q12_image_board r x).trans h.image, (q12_texts_board r x).trans h.texts, (q12_tape_board r x).trans h.tape⟩
theorem FrP.s_taken {m r : BX12} (h : FrP m r) (x : (Nat → Int32)) : FrP m (sX12_taken r x) := ⟨(q12_w_taken r x).trans h.w, (q12_h_taken r x).trans h.h, (q12_taped_taken r x).trans h.taped, (q12_fault_taken r x).trans h.fault, (q12_faultPlace_taken r x).trans h.faultPlace, (q12_a_taken r x).trans h.a, (q12_image_taken r x).trans h.image, (q12_texts_taken r x).trans h.texts, (q12_tape_taken r x).trans h.tape⟩
theorem FrP.s_fars {m r : BX12} (h : FrP m r) (x : (Nat → Int32)) : FrP m (sX12_fars r x) := ⟨(q12_w_fars r x).trans h.w, (q12_h_fars r x).trans h.h, (q12_taped_fars r x).trans h.taped, (q12_fault_fars r x).trans h.fault, (q12_faultPlace_fars r x).trans h.faultPlace, (q12_a_fars r x).trans h.a, (q12_image_fars r x).trans h.image, (q12_texts_fars r x).trans h.texts, (q12_tape_fars r x).trans h.tape⟩
