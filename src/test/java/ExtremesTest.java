/** No call may throw, whatever its arguments and the state; and wrong arguments change nothing. */
public final class ExtremesTest {
    private static final int[] NUMBERS = {Integer.MIN_VALUE, Integer.MIN_VALUE + 1, -1000, -9, -2, -1, 0, 1, 2, 5, 7, 8,
        15, 16, 63, 64, 99, 100, 255, 256, 300, 383, 384, 575, 576, 999, 1000, Integer.MAX_VALUE};

    public static void main(String[] args) {
        Check check = new Check("ExtremesTest");
        long sum = 0;
        for (int state = 0; state < 3; state++) {
            ManyEyes eyes = inState(state);
            String before = abouts(eyes);
            for (int i = 0; i < NUMBERS.length * 40; i++) {
                sum += callAll(eyes, i);
                eyes.back();
            }
            check.due("as it was, state " + state, abouts(eyes).equals(before), true);
        }
        for (int i = 0; i < NUMBERS.length; i++) {
            ManyEyes eyes = new ManyEyes(NUMBERS[i], NUMBERS[NUMBERS.length - 1 - i]);
            for (int k = 0; k < 2000; k++) {
                sum += callAll(eyes, i + 31 * k);
            }
        }
        check.due("all were called", sum != 0, true);
        check.end();
    }

    private static String abouts(ManyEyes eyes) {
        StringBuilder told = new StringBuilder();
        for (int what = 0; what <= 8; what++) {
            told.append(what == 7 ? 0 : eyes.about(what)).append(' ');
        }
        return told.toString();
    }

    private static ManyEyes inState(int state) {
        ManyEyes eyes = new ManyEyes(24, 24);
        for (int i = 0; i < 16 * state; i++) {
            eyes.mark(i * 17, 255);
            eyes.body(i * 23, i % 5 - 2, 2 - i % 5, 255);
            eyes.lens(i * 4 % 64, 7);
            eyes.pair(i % 3, 3 + i % 4, 1 + i % 8);
            Check.rule(eyes, "turn pair 3-lens 4*lens 5;go lens 2;rest not 1=2 and tick>40;");
            eyes.read(8 + i, 8, i);
            for (int t = 0; t < 21; t++) {
                eyes.turned(i, t % 17 - 8);
            }
        }
        eyes.fly(0, 8, 40, 8, 60, 0);
        eyes.image();
        return eyes;
    }

    private static int at(int turn, int step) {
        return NUMBERS[Math.floorMod(turn * (2 * step + 1) + step * 7 + turn / NUMBERS.length * step, NUMBERS.length)];
    }

    private static long callAll(ManyEyes eyes, int i) {
        int a = at(i, 0);
        int b = at(i, 1);
        int c = at(i, 2);
        int d = at(i, 3);
        int e = at(i, 4);
        int f = at(i, 5);
        long sum = eyes.mark(a, b) ? 1 : 0;
        sum += eyes.body(a, b, c, d) + eyes.markOf(a, b) + eyes.lens(a, b) + eyes.pair(a, b, c);
        sum += eyes.ray(a, b, c, d, i % 2 == 0) + eyes.take(a, b, c, d, e) + eyes.covered(a);
        sum += eyes.ends(a, b, c, d, i % 2 == 0) + eyes.width(a, b, c, d, e) + eyes.same(a, b, c, d, e, f);
        sum += eyes.feed(a, b, c, d, e) + eyes.end(a) + eyes.fault(a);
        sum += i % 3 == 0 ? eyes.rule() : 0;
        sum += eyes.fly(a, b, c, d, e, f) + eyes.flown(a) + eyes.tick(a, b);
        sum += eyes.safe(a, b, c, d, e, f, at(i, 6), at(i, 7));
        sum += eyes.read(a, b, c) + eyes.turned(a, b) + eyes.kept(a) + eyes.parts(a, b) + eyes.about(a);
        sum += i % 50 == 7 ? eyes.kept(-1) + eyes.parts(i % 24, 0) : 0;
        return sum;
    }
}
