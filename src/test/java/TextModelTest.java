import java.util.Random;

/** Promises 15 to 18 over many texts by chance (always the same ones), compared with the model's. */
public final class TextModelTest {
    private static final int TEXTS = 20000;
    private static final int TEXTS_OF_ONE = 20;

    public static void main(String[] args) {
        Check check = new Check("TextModelTest");
        Random random = new Random(7);
        ManyEyes eyes = null;
        int[] faults = new int[7];
        for (int i = 0; i < TEXTS; i++) {
            if (i % TEXTS_OF_ONE == 0) {
                eyes = new ManyEyes(4, 4);
                furnish(eyes);
                eyes.image();
            }
            String text = RandomText.next(random);
            faults[compare(check, eyes, text)]++;
            eyes.back();
        }
        for (int fault = 0; fault < faults.length; fault++) {
            check.due("fault " + fault + " came often enough", faults[fault] >= 50, true);
        }
        check.end();
    }

    private static void furnish(ManyEyes eyes) {
        eyes.mark(3, 250);
        eyes.mark(14, 90);
        eyes.body(6, -1, 1, 60);
        for (int lens = 0; lens < 5; lens++) {
            eyes.lens(13 * lens, lens);
            eyes.pair(lens, 0, 1);
        }
    }

    private static int compare(Check check, ManyEyes eyes, String text) {
        ModelText.Fault fault = ModelText.faultOf(text);
        check.due("rule " + text, Check.rule(eyes, text), fault == null ? 0 : -1);
        check.due("fault of " + text, eyes.fault(0), fault == null ? 0 : fault.code);
        check.due("place in " + text, eyes.fault(1), fault == null ? -1 : fault.place);
        if (fault != null) {
            return fault.code;
        }
        int bits = text.length() % 3 == 0 ? 4 + text.length() % 17 : 0;
        Model model = new Model(4, 4);
        model.mark(3, 250);
        model.mark(14, 90);
        model.body(6, -1, 1, 60);
        for (int lens = 0; lens < 5; lens++) {
            model.lens(13 * lens, lens);
            model.pair(lens, 0, 1);
        }
        for (int from = 0; from < text.length(); from += 20) {
            model.feed(Check.four(text, from), Check.four(text, from + 4), Check.four(text, from + 8),
                Check.four(text, from + 12), Check.four(text, from + 16));
        }
        model.end(text.length());
        check.due("the model's rule " + text, model.rule(), 0);
        check.due("fly by " + text, eyes.fly(0, 20, 20, 5, 20, bits), model.fly(0, 20, 20, 5, 20, bits));
        for (int what = 0; what < 6; what++) {
            check.due("flown " + what + " by " + text, eyes.flown(what), model.flown(what));
        }
        for (int what = 0; what < 5; what++) {
            check.due("tick 1, " + what + " by " + text, eyes.tick(1, what), model.tick(1, what));
        }
        return 0;
    }
}
