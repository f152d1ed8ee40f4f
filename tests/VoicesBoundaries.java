/** The boundaries of voices in "Terms 3" and in promises 28 to 30. */
final class VoicesBoundaries {
    private static final int MIN = Integer.MIN_VALUE;
    private static final int MAX = Integer.MAX_VALUE;
    private static final int SAYS = 0;
    private static final int RISES = 1;
    private static final int DOUBTS = 2;
    private static final int TELLS = 3;

    private VoicesBoundaries() {
    }

    /** What rider 0 (n 0) of a KIND answers, and that the BODIES are those. */
    private static void speaks(int km, int act, int x, int due, int... bodies) {
        speaks(Lifts.with(km), 0, act, x, due, bodies);
    }

    private static void speaks(LiftCredit lift, int rider, int act, int x, int due, int... bodies) {
        String call = "kind " + lift.ofRider(rider, 0) + ", voice(" + rider + ", " + act + ", " + x + ")";
        Due.is(call, lift.voice(rider, act, x), due);
        Due.is("bodies of " + call, lift.count(9), bodies.length);
        for (int i = 0; i < bodies.length; i++) {
            Due.is("body " + i + " of " + call, lift.trace(i), bodies[i]);
        }
        Due.is("body behind the last of " + call, lift.trace(bodies.length), Due.NONE);
    }

    private static LiftCredit lastOfSix(int km) {
        return Lifts.with(0, 0, 0, 0, 0, km);
    }

    // ---- Promise 28

    @Sentence(of = "Promise 28", says = "z becomes v: what it was (any number).")
    static void seedOfAnyNumber() {
        LiftCredit x = new LiftCredit();
        int was = 1;
        for (int v : new int[] {0, -1, MIN, MAX, Due.BEYOND, Due.KIND, 1}) {
            Due.is("seed(" + v + ")", x.seed(v), was);
            Due.is("z", x.count(10), v);
            was = v;
        }
        Due.is("no ERROR was told", x.told(1) + x.told(5), 0);
    }

    // ---- Terms 3: VOICES, BODIES

    @Sentence(of = "Terms 3", says = "VOICES of a RIDER, with a number x (ints that go round); n is the number, m as "
            + "told: 0 says, 1 rises, 2 doubts, 3 tells.")
    static void voicesOfTheFirstAndTheLastRider() {
        speaks(9, SAYS, 7, 7, 10);
        speaks(9, RISES, 7, 14, 11, 10);
        speaks(9, DOUBTS, 7, -2, 12);
        speaks(9, TELLS, 7, 14 ^ -2, 13, 11, 10, 12);
        speaks(lastOfSix(9), 5, SAYS, 7, 12, 10);
        speaks(lastOfSix(9), 5, RISES, 7, 24, 11, 10);
        speaks(lastOfSix(9), 5, DOUBTS, 7, -2, 12);
        speaks(lastOfSix(9), 5, TELLS, 7, 24 ^ -2, 13, 11, 10, 12);
        speaks(lastOfSix(9), 5, SAYS, MAX, MIN + 4, 10);
    }

    @Sentence(of = "Terms 3", says = "BODIES: RIDER: 10 says: x + n.")
    static void body10GoesRound() {
        speaks(lastOfSix(0), 5, SAYS, MAX - 5, MAX, 10);
        speaks(lastOfSix(0), 5, SAYS, MAX - 4, MIN, 10);
        speaks(0, SAYS, MAX, MAX, 10);
        speaks(lastOfSix(0), 5, SAYS, MIN, MIN + 5, 10);
    }

    @Sentence(of = "Terms 3", says = "11 rises: says(x) * 2.")
    static void body11GoesRound() {
        speaks(0, RISES, (1 << 30) - 1, MAX - 1, 11, 10);
        speaks(0, RISES, 1 << 30, MIN, 11, 10);
        speaks(0, RISES, MAX, -2, 11, 10);
        speaks(0, RISES, MIN, 0, 11, 10);
        speaks(10, RISES, 1 << 30, MIN, 11, 20, 10);
    }

    @Sentence(of = "Terms 3", says = "12 doubts: x - m.")
    static void body12GoesRound() {
        speaks(9, DOUBTS, MIN + 9, MIN, 12);
        speaks(9, DOUBTS, MIN + 8, MAX, 12);
        speaks(0, DOUBTS, MIN, MIN, 12);
        speaks(9, DOUBTS, MAX, MAX - 9, 12);
    }

    @Sentence(of = "Terms 3", says = "13 tells: rises(x) ^ doubts(x).")
    static void body13AtItsEdges() {
        speaks(0, TELLS, 0, 0, 13, 11, 10, 12);
        speaks(0, TELLS, MIN, MIN, 13, 11, 10, 12);
        speaks(0, TELLS, MAX, -2 ^ MAX, 13, 11, 10, 12);
        speaks(0, TELLS, -1, 1, 13, 11, 10, 12);
    }

    @Sentence(of = "Terms 3", says = "CLERK: 20 says: super.says(x) * 3.")
    static void body20GoesRound() {
        speaks(10, SAYS, 715827882, MAX - 1, 20, 10);
        speaks(10, SAYS, 715827883, MIN + 1, 20, 10);
        speaks(10, SAYS, MAX, MAX - 2, 20, 10);
        speaks(10, SAYS, MIN, MIN, 20, 10);
        speaks(lastOfSix(10), 5, SAYS, 1, 18, 20, 10);
    }

    @Sentence(of = "Terms 3", says = "LIAR: 30 rises: super.rises(x) - doubts(1).")
    static void body30GoesRound() {
        speaks(20, RISES, 1 << 30, MAX, 30, 11, 10, 12);
        speaks(29, RISES, (1 << 30) - 1, MIN + 6, 30, 11, 10, 12);
        speaks(21, RISES, 0, 0, 30, 11, 10, 12);
    }

    @Sentence(of = "Terms 3", says = "WIDOW: 40 doubts: -super.doubts(x).")
    static void body40GoesRound() {
        speaks(30, DOUBTS, MIN, MIN, 40, 12);
        speaks(30, DOUBTS, MAX, MIN + 1, 40, 12);
        speaks(30, DOUBTS, 0, 0, 40, 12);
        speaks(39, DOUBTS, MIN + 9, MIN, 40, 12);
        speaks(39, DOUBTS, MIN + 8, MIN + 1, 40, 12);
    }

    @Sentence(of = "Terms 3", says = "INSPECTOR: 50 tells: super.tells(x) - says(2).")
    static void body50GoesRound() {
        speaks(40, TELLS, MIN, MAX - 5, 50, 13, 11, 20, 10, 12, 20, 10);
        speaks(40, TELLS, 0, -6, 50, 13, 11, 20, 10, 12, 20, 10);
        speaks(lastOfSix(49), 5, TELLS, 0, (30 ^ -9) - 21, 50, 13, 11, 20, 10, 12, 20, 10);
    }

    @Sentence(of = "Terms 3", says = "POET: 60 rises: super.rises(x + 1).")
    static void body60GoesRound() {
        speaks(50, RISES, MAX, -1, 60, 30, 11, 10, 12);
        speaks(50, RISES, MAX - 1, -3, 60, 30, 11, 10, 12);
        speaks(59, RISES, -1, 8, 60, 30, 11, 10, 12);
    }

    @Sentence(of = "Terms 3", says = "SILENT: 70 doubts: super.doubts(x) ^ n.")
    static void body70AtItsEdges() {
        speaks(60, DOUBTS, MIN, MIN, 70, 40, 12);
        speaks(lastOfSix(60), 5, DOUBTS, MIN, MIN + 5, 70, 40, 12);
        speaks(lastOfSix(69), 5, DOUBTS, 9, 5, 70, 40, 12);
        speaks(lastOfSix(60), 5, DOUBTS, 1, -6, 70, 40, 12);
    }

    @Sentence(of = "Terms 3", says = "71 tells: rises(x) - super.tells(x).")
    static void body71GoesRound() {
        speaks(60, TELLS, MIN, MIN, 71, 11, 10, 13, 11, 10, 70, 40, 12);
        speaks(60, TELLS, 0, 0, 71, 11, 10, 13, 11, 10, 70, 40, 12);
        speaks(60, TELLS, 1 << 30, 1 << 30, 71, 11, 10, 13, 11, 10, 70, 40, 12);
    }

    @Sentence(of = "Terms 3", says = "says(..) is the BODY of its KIND, or of the next KIND above that has one; "
            + "super.says(..) that from the KIND above the BODY's on.")
    static void bodiesOfTheKindOrOfOneAbove() {
        int[][][] bodies = {
            {{10}, {11, 10}, {12}, {13, 11, 10, 12}},
            {{20, 10}, {11, 20, 10}, {12}, {13, 11, 20, 10, 12}},
            {{10}, {30, 11, 10, 12}, {12}, {13, 30, 11, 10, 12, 12}},
            {{10}, {11, 10}, {40, 12}, {13, 11, 10, 40, 12}},
            {{20, 10}, {11, 20, 10}, {12}, {50, 13, 11, 20, 10, 12, 20, 10}},
            {{10}, {60, 30, 11, 10, 12}, {12}, {13, 60, 30, 11, 10, 12, 12}},
            {{10}, {11, 10}, {70, 40, 12}, {71, 11, 10, 13, 11, 10, 70, 40, 12}},
        };
        int[][] due = {
            {9, 18, 0, 18}, {27, 54, 0, 54}, {9, 21, 0, 21}, {9, 18, 0, 18}, {27, 54, 0, 54 - 21}, {9, 23, 0, 23},
            {9, 18, 5, 18 - (18 ^ 5)},
        };
        for (int kind = 0; kind <= 6; kind++) {
            for (int act = SAYS; act <= TELLS; act++) {
                speaks(lastOfSix(10 * kind + 4), 5, act, 4, due[kind][act], bodies[kind][act]);
            }
        }
    }

    @Sentence(of = "Terms 3", says = "THE TRACE: the numbers of BODIES of the latest voice(), as they began (what "
            + "stands left is worked out first), the first 40.")
    static void theTraceOfTheLatestVoice() {
        LiftCredit x = Lifts.with(60, 0);
        Due.is("none at first", x.count(9), 0);
        Due.is("none at first", x.trace(0), Due.NONE);
        x.voice(0, TELLS, 1);
        Due.is("the longest there is", x.count(9), 9);
        Due.is("its last", x.trace(8), 12);
        x.voice(1, SAYS, 1);
        Due.is("the latest alone", x.count(9), 1);
        Due.is("the latest alone", x.trace(0), 10);
        x.voice(2, SAYS, 1);
        x.voice(0, 4, 1);
        Due.is("a refused one is none", x.count(9), 1);
        for (int times = 0; times < 6; times++) {
            x.voice(0, TELLS, 1);
        }
        Due.is("they don't add up to 40", x.count(9), 9);
        Due.is("no fortieth", x.trace(39), Due.NONE);
    }

    // ---- Promises 29 and 30

    @Sentence(of = "Promise 29", says = "A VOICE of a RIDER: any number.")
    static void voiceOfAnyNumber() {
        LiftCredit x = Lifts.with(0);
        for (int v : new int[] {0, -1, MIN, MAX, -1000000000, Due.BEYOND, Due.NONE, Due.STATE, Due.FULL, Due.KIND}) {
            Due.is("voice(0, 0, " + v + ")", x.voice(0, SAYS, v), v);
            Due.is("its body", x.trace(0), 10);
        }
        for (int k = 1; k <= 5; k++) {
            Due.is("no ERROR was told", x.told(k), 0);
        }
    }

    @Sentence(of = "Promise 29", says = "BEYOND.")
    static void voiceBeyond() {
        Twins.refused(Lifts::furnished, Due.BEYOND,
            x -> x.voice(-1, 0, 0), x -> x.voice(5, 0, 0), x -> x.voice(0, -1, 0), x -> x.voice(0, 4, 0),
            x -> x.voice(MIN, 0, 0), x -> x.voice(MAX, 0, 0), x -> x.voice(0, MIN, 0), x -> x.voice(0, MAX, 0));
        Twins.refused(LiftCredit::new, Due.BEYOND, x -> x.voice(0, 0, 0));
    }

    @Sentence(of = "Promise 30", says = "THE TRACE's i-th.")
    static void traceOfTheFirstAndTheLast() {
        LiftCredit x = Lifts.furnished();
        Due.is("the first", x.trace(0), 50);
        Due.is("the last", x.trace(7), 10);
        Due.is("they stay", x.trace(0), 50);
    }

    @Sentence(of = "Promise 30", says = "NONE: there is none such.")
    static void traceNone() {
        Twins.refused(Lifts::furnished, Due.NONE,
            x -> x.trace(-1), x -> x.trace(8), x -> x.trace(39), x -> x.trace(40), x -> x.trace(MIN), x -> x.trace(MAX));
        Twins.refused(LiftCredit::new, Due.NONE, x -> x.trace(0));
    }
}
