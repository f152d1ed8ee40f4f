import java.util.ArrayList;
import java.util.List;

/**
 * Whole small worlds of cases, each compared with the model: every call with every mix of arguments
 * at and around the bounds, in several states; every KIND's CREDITS, RIDES and VOICES.
 */
final class EveryCaseTest {
    private static final int MIN = Integer.MIN_VALUE;
    private static final int MAX = Integer.MAX_VALUE;
    private static final int CALLS = 512;
    private static final int[] SMALL = {MIN, -1, 0, 1, 2, 3, 4, 5, 6, 7, 8, 9, 10, 11, MAX};
    /** The arguments that a call's bounds are around, for each call, by its place among Calls.NAMES. */
    private static final int[][][] AROUND = new int[Calls.NAMES.length][][];

    static {
        around("hear", SMALL, SMALL);
        around("heard");
        around("world", row(MIN, -1, 0, 1, 85, 254, 255, 256, MAX));
        around("trust", SMALL);
        around("rider", row(MIN, -1, 0, 9, 70, 71, 69, MAX, 15, 26, 37, 48, 59));
        around("ofRider", SMALL, SMALL);
        around("story", SMALL, row(MIN, -1, 0, 1, 3280, 6560, 6561, MAX));
        around("say", SMALL, SMALL, row(-1, 0, 1, 2, 3, MAX));
        around("become", SMALL, row(MIN, -1, 0, 9, 10, 39, 60, 69, 70, MAX));
        around("as", SMALL, SMALL);
        around("feed", row(MIN, -1, 0, 'h', 's', '1' << 8 | '0', MAX), SMALL);
        around("text", SMALL);
        around("law", SMALL, row(MIN, -1, 0, 7, MAX), row(MIN, -1, 0, 7, MAX), row(MIN, -1, 0, 7, MAX));
        around("ride", SMALL);
        around("days", row(MIN, -1, 0, 1, 2, 59, 60, 61, 9999, MAX));
        around("rumours", row(MIN, -1, 0, 1, 2, 39, 40, 41, 9999, MAX));
        around("together", row(MIN, -1, 0, 1, 2, 3, 6, 7, 8, 31, 32, 62, 63, 64, 65, MAX));
        around("bestWith", SMALL, row(MIN, -1, 0, 1, 2, MAX));
        around("shortest", SMALL, row(MIN, -1, 0, 6, 9, 10, MAX));
        around("truest", SMALL, row(MIN, -1, 0, 6, 9, 10, MAX));
        around("out", SMALL, SMALL);
        around("when", SMALL, SMALL);
        around("still");
        around("then", row(MIN, -1, 0, 1, 2, 59, 60, 61, MAX));
        around("believed", SMALL, row(MIN, -1, 0, 1, 2, MAX));
        around("word", row(MIN, -1, 0, 1, 2, 3, 4), row(-1, 0, 1, 5, 6, MAX), row(-1, 0, 1, 2, MAX));
        around("seed", SMALL);
        around("voice", SMALL, row(MIN, -1, 0, 1, 2, 3, 4, MAX), row(MIN, -5, 0, 9, MAX));
        around("trace", row(MIN, -1, 0, 1, 5, 8, 9, 39, 40, MAX));
        around("sheet", SMALL, row(MIN, -8, 0, 1, 7, 8, 9, 16, 24, 32, 64, MAX), row(MIN, -1, 0, 1, 3, 40, 41, MAX));
        around("put", SMALL, row(MIN, -1, 0, 2, 3, 39, 40, MAX), row(MIN, -129, -1, 6, 128, 32768, 65535, MAX));
        around("move", row(-1, 0, 1, 2, 3, 4), row(MIN, -1, 0, 1, 3, MAX), row(-1, 0, 1, 2, 3, 4),
            row(MIN, -1, 0, 2, 3, MAX), row(MIN, -1, 0, 1, 3, 4, MAX));
        around("stories", SMALL);
        around("judge", SMALL);
        around("image");
        around("restore");
        around("tell", SMALL);
        around("check");
        around("count", SMALL);
        around("told", SMALL);
    }

    private LiftCredit lift = new LiftCredit();
    private Model model = new Model();
    private int done = 0;
    private final List<long[]> begin = new ArrayList<>();

    private EveryCaseTest(long[]... calls) {
        for (long[] call : calls) {
            begin.add(call);
        }
        beginAgain();
    }

    public static void main(String[] arguments) {
        bounds();
        credits();
        rides();
        voices();
        Due.verdict();
    }

    // ---- calls

    private static int[] row(int... numbers) {
        return numbers;
    }

    private static long[] call(String name, long... arguments) {
        long[] call = new long[arguments.length + 1];
        call[0] = placeOf(name);
        System.arraycopy(arguments, 0, call, 1, arguments.length);
        return call;
    }

    private static int placeOf(String name) {
        int place = 0;
        while (!Calls.NAMES[place].equals(name)) {
            place++;
        }
        return place;
    }

    private static void around(String name, int[]... arguments) {
        AROUND[placeOf(name)] = arguments;
    }

    private void beginAgain() {
        lift = new LiftCredit();
        model = new Model();
        done = 0;
        for (long[] call : begin) {
            make(call);
        }
    }

    private void make(long... call) {
        done++;
        int want = Calls.on(model, call);
        Due.is(Calls.shown(call), Calls.on(lift, call), want);
    }

    private void make(String name, long... arguments) {
        make(call(name, arguments));
    }

    // ---- each call, with all that is at and around its bounds

    private static void bounds() {
        List<long[]> some = new ArrayList<>();
        for (int km : row(7, 14, 25, 33, 49, 62)) {
            some.add(call("rider", km));
            some.add(call("story", some.size() / 2, 13 + 400 * some.size()));
        }
        some.add(call("hear", 2, 1));
        some.add(call("hear", 5, 2));
        some.add(call("world", 45));
        some.add(call("sheet", 0, 8, 3));
        some.add(call("put", 0, 1, 6));
        some.add(call("sheet", 1, 8, 2));
        some.add(call("sheet", 3, 32, 4));
        some.add(call("put", 3, 0, 300));
        some.add(call("put", 3, 2, 7000));
        some.add(call("feed", '3' << 8 | '+', 2));
        some.add(call("tell", 0));
        some.add(call("image"));
        some.add(call("voice", 5, 3, 3));
        List<long[]> late = new ArrayList<>(some);
        for (int i = 0; i < 166; i++) {
            late.add(call("days", 60));
        }
        List<long[]> full = new ArrayList<>(some);
        for (int i = 0; i < 20; i++) {
            full.add(call("tell", i));
        }
        for (int i = 0; i < 6; i++) {
            full.add(call("feed", '(' | '!' << 8, 8));
        }
        allCalls(new long[0][]);
        allCalls(new long[][] {call("rider", 42), call("story", 0, 5), call("sheet", 2, 16, 1)});
        allCalls(some.toArray(new long[0][]));
        allCalls(late.toArray(new long[0][]));
        allCalls(full.toArray(new long[0][]));
    }

    private static void allCalls(long[][] begin) {
        for (int name = 0; name < Calls.NAMES.length; name++) {
            EveryCaseTest test = new EveryCaseTest(begin);
            test.mix(new long[AROUND[name].length + 1], name, 0);
            test.state();
        }
    }

    private void mix(long[] call, int name, int from) {
        if (from == AROUND[name].length) {
            if (done + 60 > CALLS) {
                state();
                beginAgain();
            }
            call[0] = name;
            make(call);
            return;
        }
        for (int argument : AROUND[name][from]) {
            call[from + 1] = argument;
            mix(call, name, from + 1);
        }
    }

    /** All that is held, as far as some forty calls can ask for it. */
    private void state() {
        for (int what = 0; what <= 10; what++) {
            make("count", what);
        }
        for (int k = 1; k <= 5; k++) {
            make("told", k);
        }
        make("heard");
        for (int rider = 0; rider < model.count(0); rider++) {
            make("ofRider", rider, 2);
            make("voice", rider, 3, 5);
        }
        for (int sheet = 0; sheet <= 3; sheet++) {
            make("judge", sheet);
            make("stories", sheet);
        }
        make("law", 0, 5, 2, 1);
        make("law", 1, 5, 2, 1);
        make("check");
        make("restore");
        make("heard");
    }

    // ---- KINDS

    private static void credits() {
        String[] texts = {"", "c*7-h+n%2", "5-c", "(c=0)*9+h*10", "c%2*100-n"};
        for (String text : texts) {
            for (int kind = 0; kind <= 6; kind++) {
                for (int h = 0; h <= 8; h++) {
                    for (int c = 0; c <= 8 - h; c++) {
                        creditsOf(text, kind * 10 + (h + c) % 10, h, c);
                    }
                }
            }
        }
    }

    /** A rider with m, so many SAYINGS as HEARD and the other way round, and all that may be unheard. */
    private static void creditsOf(String text, int km, int h, int c) {
        EveryCaseTest test = new EveryCaseTest(call("rider", km));
        for (int i = 0; i < text.length(); i++) {
            test.make("feed", text.charAt(i), 1);
        }
        test.make("text", 0);
        for (int fact = 0; fact < h + c; fact++) {
            test.make("hear", fact, 1 + fact % 2);
            test.make("say", 0, fact, fact < h ? 1 + fact % 2 : 2 - fact % 2);
        }
        for (int fact = h + c; fact <= 8; fact++) {
            for (int what = 3; what <= 8; what++) {
                test.make("ofRider", 0, what);
            }
            test.make("say", 0, fact, 1 + fact / 2 % 2);
        }
    }

    /** Of two FACTS all that may be HEARD and said, at every TRUST. */
    private static void rides() {
        for (int kind = 0; kind <= 6; kind++) {
            for (int heard = 0; heard < 9; heard++) {
                for (int story = 0; story < 9; story++) {
                    EveryCaseTest test = new EveryCaseTest(call("rider", kind * 10 + heard), call("rider", 0));
                    test.make("story", 0, story);
                    test.make("story", 1, (story * 5 + 1) % 9);
                    for (int trust = 0; trust <= 9; trust++) {
                        test.make("trust", trust);
                        test.ridesFrom(heard);
                    }
                }
            }
        }
    }

    private void ridesFrom(int heard) {
        for (int days = 0; days <= 1; days++) {
            make("hear", 0, heard % 3);
            make("hear", 1, heard / 3);
            make("then", 3);
            make("still");
            make("when", 1, 2);
            make(days == 1 ? call("days", 2) : call("ride", 0));
            make("heard");
        }
    }

    /** Each KIND at each place, with each m, each act. */
    private static void voices() {
        for (int kind = 0; kind <= 6; kind++) {
            for (int m = 0; m <= 9; m++) {
                EveryCaseTest test = new EveryCaseTest();
                for (int number = 0; number < 6; number++) {
                    test.make("rider", kind * 10 + m);
                    for (int act = 0; act <= 3; act++) {
                        test.voicesOf(number, act, number * 7 - 13);
                        test.voicesOf(number, act, number % 2 == 0 ? MAX - m : MIN + m);
                    }
                }
            }
        }
    }

    private void voicesOf(int number, int act, int x) {
        make("voice", number, act, x);
        for (int i = 0; i <= 6; i++) {
            make("trace", i);
        }
        make("count", 9);
    }
}
