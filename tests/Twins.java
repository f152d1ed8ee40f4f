import java.util.ArrayList;
import java.util.List;
import java.util.function.Supplier;
import java.util.function.ToIntFunction;

/**
 * Tells by twins what a call changes: two lifts are made alike, one of them is called, then both
 * are asked for all that they hold.
 */
final class Twins {
    private static final int NUMBERS_LOOKED_FOR = 41;

    private Twins() {
    }

    /** Each call answers the ERROR, which told() tells once more, and changes nothing else. */
    @SafeVarargs
    static void refused(Supplier<LiftCredit> made, int error, ToIntFunction<LiftCredit>... calls) {
        for (int i = 0; i < calls.length; i++) {
            LiftCredit called = made.get();
            LiftCredit twin = made.get();
            int k = -1000000000 - error;
            int told = twin.told(k);
            Due.is("refused call " + i, calls[i].applyAsInt(called), error);
            List<String> due = held(twin);
            due.set(k - 1, line("told(" + k + ")", told + 1));
            compare("behind refused call " + i, held(called), due);
        }
    }

    /** Each call answers no ERROR and changes nothing at all. */
    @SafeVarargs
    static void onlyThought(Supplier<LiftCredit> made, ToIntFunction<LiftCredit>... calls) {
        for (int i = 0; i < calls.length; i++) {
            LiftCredit called = made.get();
            Due.holds("call " + i + " answers no ERROR", calls[i].applyAsInt(called) >= -1000000000);
            compare("behind call " + i, held(called), held(made.get()));
        }
    }

    static void alike(String what, LiftCredit got, LiftCredit due) {
        compare(what, held(got), held(due));
    }

    private static void compare(String what, List<String> got, List<String> due) {
        for (int i = 0; i < Math.max(got.size(), due.size()); i++) {
            String one = i < got.size() ? got.get(i) : "nothing";
            String other = i < due.size() ? due.get(i) : "nothing";
            if (!one.equals(other)) {
                Due.holds(what + ": " + one + ", due is " + other, false);
                return;
            }
        }
        Due.holds(what, true);
    }

    // ---- all that a lift holds; asking for it uses the lift up

    private static List<String> held(LiftCredit x) {
        List<String> held = new ArrayList<>();
        for (int k = 1; k <= 5; k++) {
            held.add(line("told(" + k + ")", x.told(k)));
        }
        for (int i = 0; i < x.count(9); i++) {
            held.add(line("trace(" + i + ")", x.trace(i)));
        }
        held.add(line("BODIES", x.count(9)));
        counts(x, held);
        int[] lengths = lengths(x, held);
        imaged(x, held);
        sheets(x, held, lengths);
        held.add(line("restore()", x.restore()));
        imaged(x, held);
        held.add(line("image()", x.image()));
        return held;
    }

    private static String line(String call, long answer) {
        return call + " is " + answer;
    }

    /** A move of all numbers to where they stand changes nothing, and tells how many there are. */
    private static int[] lengths(LiftCredit x, List<String> held) {
        int[] lengths = new int[4];
        for (int sheet = 0; sheet < 4; sheet++) {
            lengths[sheet] = -1;
            while (lengths[sheet] < NUMBERS_LOOKED_FOR
                    && x.move(sheet, 0, sheet, 0, lengths[sheet] + 1) == lengths[sheet] + 1) {
                lengths[sheet]++;
            }
            held.add(line("numbers of sheet " + sheet, lengths[sheet]));
            held.add(line("judge(" + sheet + ")", x.judge(sheet)));
        }
        return lengths;
    }

    /** All that an IMAGE keeps; the numbers that wait are seen only where they are as they will be. */
    private static void imaged(LiftCredit x, List<String> held) {
        counts(x, held);
        for (int rider = 0; rider < x.count(0); rider++) {
            for (int what : new int[] {0, 1, 2, 7, 9}) {
                held.add(line("ofRider(" + rider + ", " + what + ")", x.ofRider(rider, what)));
            }
            held.add(line("voice(" + rider + ", 0, 0)", x.voice(rider, 0, 0)));
        }
        laws(x, held);
        held.add(line("check()", x.check()));
        x.feed('1', 1);
        held.add(line("text(0) of the tape and 1", x.text(0)));
        laws(x, held);
    }

    private static void counts(LiftCredit x, List<String> held) {
        for (int what = 0; what <= 10; what++) {
            if (what != 9) {
                held.add(line("count(" + what + ")", x.count(what)));
            }
        }
        held.add(line("heard()", x.heard()));
    }

    private static void laws(LiftCredit x, List<String> held) {
        for (int use = 0; use <= 1; use++) {
            held.add(line("law(" + use + ", 11, 3, 2)", x.law(use, 11, 3, 2)));
            held.add(line("law(" + use + ", 2, 5, 19)", x.law(use, 2, 5, 19)));
            held.add(line("law(" + use + ", 23, 2, 7)", x.law(use, 23, 2, 7)));
        }
    }

    /** A number is seen as a STORY, or as the FLOOR of one who says nothing. */
    private static void sheets(LiftCredit x, List<String> held, int[] lengths) {
        x.rider(0);
        x.trust(9);
        for (int sheet = 0; sheet < 4; sheet++) {
            for (int i = 0; i < lengths[sheet]; i++) {
                x.story(0, 0);
                x.move(sheet, i, sheet, 0, 1);
                held.add(line("number " + i + " of sheet " + sheet + ": judge", x.judge(sheet)));
                x.stories(sheet);
                held.add(line("number " + i + " of sheet " + sheet + ": story", x.ofRider(0, 2)));
            }
        }
        bits(x, held);
    }

    private static void bits(LiftCredit x, List<String> held) {
        for (int sheet = 0; sheet < 4; sheet++) {
            int other = (sheet + 1) % 4;
            for (int bits = 8; bits <= 32; bits *= 2) {
                x.sheet(other, bits, 0);
                held.add(line("sheet " + sheet + " of " + bits + " bits", x.move(sheet, 0, other, 0, 0)));
            }
        }
    }
}
