/**
 * Every short text, of all signs that a TEXT may have and some that it may not: the FAULT by the
 * document's own rules, what it gives by the model. Only what a TEXT begins with is gone on with.
 */
final class EveryTextTest {
    private static final int[][] VALUES = {{3, 1, 2}, {-7, 0, 5}, {0, 2, -1}};
    private static final int TEXTS_OF_A_LIFT = 90;

    private LiftCredit lift = new LiftCredit();
    private int texts = 0;
    private int standing = 0;
    private final int use;
    private final String names;
    private final String signs;

    private EveryTextTest(int use, String signs) {
        this.use = use;
        this.names = use == 0 ? "hcn" : "skd";
        this.signs = signs;
    }

    public static void main(String[] arguments) {
        new EveryTextTest(0, "hcn07!()|&<=>+-*/%sH _\u00e9").goOn("", 4);
        new EveryTextTest(1, "skd9!()|&<=>+-*/%h").goOn("", 4);
        new EveryTextTest(0, "n!(|<-)").goOn("", 7);
        new EveryTextTest(0, "c!()").goOn("", 11);
        new EveryTextTest(0, "h5+").goOn("", 10);
        new EveryTextTest(1, "s2/%").goOn("", 7);
        Due.verdict();
    }

    private void goOn(String begin, int most) {
        int fault = Grammar.fault(begin, names);
        ask(begin, fault);
        if (fault >= 0 && fault < begin.length()) {
            // What is behind a FAULT doesn't matter.
            ask(begin + signs.charAt(0), fault);
            return;
        }
        for (int i = 0; i < signs.length() && begin.length() < most; i++) {
            goOn(begin + signs.charAt(i), most);
        }
    }

    private void ask(String text, int fault) {
        if (texts % TEXTS_OF_A_LIFT == 0) {
            lift = new LiftCredit();
            Lifts.text(lift, use, names.substring(0, 1));
        }
        texts++;
        Due.is("text \"" + text + "\"", Lifts.text(lift, use, text), fault < 0 ? 1 : -10 - fault);
        if (fault >= 0) {
            return;
        }
        standing++;
        int[] values = VALUES[standing % VALUES.length];
        int due = ModelText.value(text, names, values[0], values[1], values[2]);
        Due.is("law of \"" + text + "\"", lift.law(use, values[0], values[1], values[2]),
            Math.max(-99, Math.min(99, due)));
    }
}
