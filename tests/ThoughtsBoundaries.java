/** The boundaries of thoughts in "Terms 3" and in promises 18 to 27: what would be. */
final class ThoughtsBoundaries {
    private static final int MIN = Integer.MIN_VALUE;
    private static final int MAX = Integer.MAX_VALUE;
    private static final int ALL_SO = 3280;
    private static final int ALL_NOT_SO = 6560;

    private ThoughtsBoundaries() {
    }

    /** Six riders of whom each says a FACT of its own, with a TEXT for crowds. */
    private static LiftCredit sixBy(String crowdText) {
        LiftCredit x = Lifts.saying(Lifts.with(0, 0, 0, 0, 0, 0), 1, 3, 9, 27, 81, 243);
        Lifts.text(x, 1, crowdText);
        return x;
    }

    // ---- Terms 3

    @Sentence(of = "Terms 3", says = "(All this is only thought, DAY beyond 9999, too.)")
    static void thoughtChangesNothingAndGoesBeyondTheLastDay() {
        Twins.onlyThought(Lifts::furnished,
            x -> x.together(31), x -> x.bestWith(4, 0), x -> x.bestWith(0, 1), x -> x.shortest(0, 3), x -> x.truest(0, 1),
            x -> x.out(4, 0), x -> x.when(0, 0), x -> x.still(), x -> x.then(60), x -> x.believed(0, 0));
        Twins.onlyThought(() -> Lifts.numbers(Lifts.furnished(), 3, 8), x -> x.believed(3, 1), x -> x.word(3, 0, 0));
        Twins.onlyThought(Lifts::onTheLastDay,
            x -> x.together(3), x -> x.bestWith(1, 0), x -> x.shortest(0, 1), x -> x.truest(1, 1), x -> x.out(0, 0),
            x -> x.when(0, 2), x -> x.still(), x -> x.then(60), x -> x.believed(0, 1), x -> x.word(0, 1, 0));
        LiftCredit x = Lifts.onTheLastDay();
        Due.is("then(1)", x.then(1), 7);
        Due.is("then(60)", x.then(60), 7);
        Due.is("when(0, 2)", x.when(0, 2), 1);
        Due.is("when(0, 3)", x.when(0, 3), Due.NONE);
        Due.is("still()", x.still(), 1);
        Due.is("check()", x.check(), 0);
        Due.is("the last day still", x.count(1), 9999);
    }

    @Sentence(of = "Terms 3", says = "TOGETHER: FLOOR of a CROWD (a set of RIDERS): what the TEXT gives, held within "
            + "0 to 9;")
    static void floorsOfCrowdsAreHeld() {
        String[] texts = {"0-99", "0-1", "0", "1", "8", "9", "10", "99"};
        int[] due = {0, 0, 0, 1, 8, 9, 9, 9};
        for (int i = 0; i < texts.length; i++) {
            LiftCredit x = sixBy(texts[i]);
            Due.is("all by " + texts[i], x.together(63), due[i]);
            Due.is("one by " + texts[i], x.together(32), due[i]);
            Due.is("best by " + texts[i], x.bestWith(5, 1), due[i]);
        }
    }

    @Sentence(of = "Terms 3", says = "-1, if none of them says anything.")
    static void aCrowdThatSaysNothing() {
        LiftCredit x = Lifts.with(49, 30, 0, 0, 0, 0);
        Lifts.text(x, 1, "9");
        for (int crowd = 1; crowd <= 63; crowd++) {
            Due.is("together(" + crowd + ")", x.together(crowd), -1);
        }
        x.say(5, 7, 2);
        Due.is("one of them says something", x.together(63), 9);
        Due.is("one alone", x.together(32), 9);
        Due.is("one who isn't in it", x.together(31), -1);
    }

    @Sentence(of = "Terms 3", says = "BEST CROWD of a RIDER: of all CROWDS in which it is that with the greatest "
            + "FLOOR;")
    static void theGreatestFloorGoesFirst() {
        LiftCredit all = sixBy("k");
        Due.is("all", all.bestWith(0, 0), 63);
        Due.is("its floor", all.bestWith(5, 1), 6);
        LiftCredit alone = sixBy("9-k");
        for (int rider = 0; rider <= 5; rider++) {
            Due.is("alone", alone.bestWith(rider, 0), 1 << rider);
            Due.is("its floor", alone.bestWith(rider, 1), 8);
        }
        LiftCredit silent = Lifts.saying(Lifts.with(0, 0), 2, 0);
        silent.hear(0, 1);
        Due.is("the ground is above the cellar", silent.bestWith(1, 0), 3);
        Due.is("its floor", silent.bestWith(1, 1), 0);
        LiftCredit nobody = Lifts.with(0, 0);
        Due.is("all are in the cellar", nobody.bestWith(1, 0), 2);
        Due.is("its floor", nobody.bestWith(1, 1), -1);
        LiftCredit one = Lifts.saying(Lifts.with(0), 1);
        Due.is("the only one", one.bestWith(0, 0), 1);
        Due.is("its floor", one.bestWith(0, 1), 1);
    }

    @Sentence(of = "Terms 3", says = "of several that with the fewest RIDERS, then the least set.")
    static void thenTheFewestThenTheLeast() {
        LiftCredit x = sixBy("(k=2|k=3)*5");
        int[] due = {3, 3, 5, 9, 17, 33};
        for (int rider = 0; rider <= 5; rider++) {
            Due.is("two, not three, for " + rider, x.bestWith(rider, 0), due[rider]);
        }
        Due.is("two by 9, three by 99", sixBy("(k=2)*9+(k=3)*99").bestWith(5, 0), 33);
        Due.is("three", sixBy("(k=3)*9").bestWith(5, 0), 35);
        Due.is("three for the first", sixBy("(k=3)*9").bestWith(0, 0), 7);
        Due.is("five of six", sixBy("(k>4)*9").bestWith(5, 0), 47);
        Due.is("all alike", sixBy("7").bestWith(5, 0), 32);
        Due.is("the fewest though not the least", sixBy("(s=4|k=1&s=1)*9").bestWith(5, 0), 32);
    }

    @Sentence(of = "Terms 3", says = "SHORTEST to a FLOOR f (0 to 9), for a RIDER: of all STORIES with which its "
            + "FLOOR is f or more the least LONG one;")
    static void theLeastLongGoesFirst() {
        LiftCredit x = Lifts.hearing(Lifts.with(0), 4374);
        Due.is("to 0", x.shortest(0, 0), 1);
        Due.is("to 1", x.shortest(0, 1), 1);
        Due.is("to 2 by one, not by two", x.shortest(0, 2), 4374);
        Due.is("to 9 by eight", x.shortest(0, 9), 1093 + 4374);
        x.hear(0, 1);
        Due.is("to 9 by seven", x.shortest(0, 9), 1 + 3 + 9 + 27 + 81 + 243 + 4374);
        x.story(0, 6000);
        Due.is("whatever it says", x.shortest(0, 2), 1);
        x.become(0, 49);
        Due.is("an inspector's", x.shortest(0, 9), 1);
    }

    @Sentence(of = "Terms 3", says = "of several the one with the least number.")
    static void theLeastNumberOfSeveral() {
        LiftCredit x = Lifts.with(0);
        for (int f = 1; f <= 8; f++) {
            Due.is("to " + f, x.shortest(0, f), ((int) Math.pow(3, f) - 1) / 2);
        }
        Lifts.text(x, 0, "c*9");
        Lifts.hearing(x, ALL_SO);
        Due.is("not so of the first", x.shortest(0, 9), 2);
        x.hear(0, 0);
        Due.is("not so of the second", x.shortest(0, 9), 6);
        Lifts.hearing(x, 2187);
        Due.is("not so of the last", x.shortest(0, 9), 4374);
    }

    @Sentence(of = "Terms 3", says = "TRUE: likewise, of those that say nothing but what is so in THE WORLD.")
    static void trueStoriesOnly() {
        LiftCredit x = Lifts.with(0);
        Due.is("in a world of none", x.truest(0, 0), 2);
        Due.is("all, none of them so", x.truest(0, 8), ALL_NOT_SO);
        x.world(255);
        Due.is("in a world of all", x.truest(0, 0), 1);
        Due.is("all of them", x.truest(0, 8), ALL_SO);
        x.world(128);
        Due.is("the last is so", x.truest(0, 8), ALL_NOT_SO - 2187);
        Lifts.hearing(x, 1 + 2187);
        Due.is("heard what isn't so", x.truest(0, 2), 2187);
        Due.is("seven that are so", x.truest(0, 8), 2 * 1092 + 2187);
        Lifts.hearing(x, ALL_SO - 2187 + 4374);
        Due.is("all heard the other way round", x.truest(0, 0), 2);
        Due.is("all heard the other way round", x.truest(0, 1), Due.NONE);
    }

    @Sentence(of = "Terms 3", says = "OUT: of a STORY the fewest SAYINGS that are left out (said nothing) so that "
            + "FLOOR is f or more: which, as a set;")
    static void theFewestAreLeftOut() {
        LiftCredit x = Lifts.hearing(Lifts.saying(Lifts.with(0), ALL_SO), 2 * 1093 + 2187);
        Due.is("none", x.out(0, 0), 0);
        Due.is("all but the last", x.out(0, 1), 127);
        Due.is("all but the last", x.out(0, 2), 127);
        Due.is("not by any", x.out(0, 3), Due.NONE);
        x.say(0, 3, 0);
        Due.is("only what is said", x.out(0, 2), 127 - 8);
        x.story(0, 3 + 9);
        Due.is("all would be the cellar", x.out(0, 1), Due.NONE);
        Due.is("none for the ground", x.out(0, 0), 0);
        LiftCredit y = Lifts.hearing(Lifts.saying(Lifts.with(0), 13), 9);
        Lifts.text(y, 0, "(h=0|n=0)*9");
        Due.is("the last alone, not the two ahead", y.out(0, 9), 4);
    }

    /** A LIAR whose three SAYINGS are all the other way round; half of two is one, half of one none. */
    @Sentence(of = "Terms 3", says = "of several the least.")
    static void theLeastOfSeveral() {
        LiftCredit x = Lifts.hearing(Lifts.saying(Lifts.with(20), 13), 26);
        Lifts.text(x, 0, "9-c");
        Due.is("none", x.out(0, 8), 0);
        Due.is("two of three", x.out(0, 9), 3);
        x.story(0, 4);
        Due.is("one of two", x.out(0, 9), 1);
        x.story(0, 2187 + 9);
        x.hear(7, 2);
        Due.is("one of two others", x.out(0, 9), 4);
        LiftCredit y = Lifts.with(0, 0);
        Lifts.numbers(y, 0, 8);
        Due.is("each word tells as much", y.word(0, 1, 0), 0);
        y.story(0, 1);
        Lifts.numbers(y, 0, 8, 2);
        Due.is("each word but the first", y.word(0, 1, 0), 1);
    }

    @Sentence(of = "Terms 3", says = "WHEN: behind how many DAYS (0 to 60) a RIDER'S FLOOR is f or more first.")
    static void floorsBehindNoneAndSixtyDays() {
        LiftCredit x = Lifts.late(1554);
        Due.is("to the ground", x.when(1, 0), 0);
        Due.is("behind 60 days", x.when(1, 2), 60);
        x.days(59);
        Due.is("not yet", x.ofRider(1, 8) < 2 ? 1 : 0, 1);
        Due.is("behind one day", x.when(1, 2), 1);
        x.days(1);
        Due.is("there", x.when(1, 2), 0);
        Due.is("there", x.ofRider(1, 8) >= 2 ? 1 : 0, 1);
        LiftCredit y = Lifts.late(2268);
        Due.is("behind 61 days", y.when(1, 2), Due.NONE);
        y.days(1);
        Due.is("a day later", y.when(1, 2), 60);
    }

    @Sentence(of = "Terms 3", says = "STILL: behind how many DAYS (0 to 60) first one DAY more changes nothing of "
            + "what is HEARD.")
    static void stillBehindNoneAndSixtyDays() {
        Due.is("nobody rides", new LiftCredit().still(), 0);
        Due.is("nobody says anything", Lifts.hearing(Lifts.with(0, 0), 5).still(), 0);
        LiftCredit x = Lifts.slow(4428);
        Due.is("behind 60 days", x.still(), 60);
        Due.holds("then(59) isn't then(60)", x.then(59) != x.then(60));
        x.days(59);
        Due.is("behind one day", x.still(), 1);
        x.days(1);
        int heard = x.heard();
        Due.is("still", x.still(), 0);
        Due.is("nothing changes", x.days(1), heard);
        LiftCredit y = Lifts.slow(4375);
        Due.is("behind 61 days", y.still(), Due.NONE);
        y.days(1);
        Due.is("a day later", y.still(), 60);
        Due.is("never", Lifts.swing().still(), Due.NONE);
    }

    /** Rider 0 says nothing; rider 1, an INSPECTOR, says FACT 0: floor 5 if it is HEARD not so, else 9. */
    private static LiftCredit silentAndInspector() {
        return Lifts.saying(Lifts.with(0, 49), 0, 1);
    }

    @Sentence(of = "Terms 3", says = "A SHEET tells FLOORS (-1 to 9) of RIDERS 0, 1, .., as many as it has numbers:")
    static void floorsOfNoneOfSomeAndOfAll() {
        int[][] due = {
            {6561}, {6561, -1}, {0, 0}, {0, -2}, {4374, -1, 9}, {2187, -1, 5}, {0, -1, -1}, {0, -1, 10}, {0, 9, 9},
            {Due.NONE, -1, 9, 0}, {Due.NONE, -1, 9, -1},
        };
        for (int[] row : due) {
            int[] floors = java.util.Arrays.copyOfRange(row, 1, row.length);
            for (int bits = 8; bits <= 32; bits *= 2) {
                LiftCredit x = Lifts.numbers(silentAndInspector(), 0, bits, floors);
                Due.is("ways of " + java.util.Arrays.toString(floors), x.believed(0, 0), row[0]);
            }
        }
    }

    @Sentence(of = "Terms 3", says = "BELIEVED: how many ways there are of what THE LIFT may have HEARD (a number "
            + "like that of a STORY) with which FLOORS are so; the least.")
    static void waysFromNoneToAll() {
        LiftCredit x = Lifts.numbers(Lifts.with(0), 0, 8);
        Due.is("all", x.believed(0, 0), 6561);
        Due.is("the least of all", x.believed(0, 1), 0);
        Lifts.text(x, 0, "h");
        x.story(0, ALL_NOT_SO);
        Lifts.numbers(x, 0, 8, 8);
        Due.is("one", x.believed(0, 0), 1);
        Due.is("the greatest", x.believed(0, 1), 6560);
        x.story(0, 4374);
        Lifts.numbers(x, 0, 8, 1);
        Due.is("a third", x.believed(0, 0), 2187);
        Due.is("the least of them", x.believed(0, 1), 4374);
        Lifts.numbers(x, 0, 8, 2);
        Due.is("none", x.believed(0, 0), 0);
        Due.is("no least", x.believed(0, 1), Due.NONE);
    }

    @Sentence(of = "Terms 3", says = "WORD: of all FACTS that by which, a RIDER saying of it alone that it is so, "
            + "there are most unlike FLOORS over all those ways;")
    static void wordsThatTellMost() {
        LiftCredit x = Lifts.with(0, 0);
        Lifts.numbers(x, 0, 8);
        Due.is("three unlike floors", x.word(0, 1, 1), 3);
        Lifts.text(x, 0, "n");
        x.story(0, ALL_SO);
        Lifts.numbers(x, 0, 8, 8);
        Due.is("one way, one floor", x.word(0, 1, 1), 1);
        Due.is("one way, no fact more than another", x.word(0, 1, 0), 0);
        for (int fact = 0, worth = 1; fact <= 7; fact++, worth *= 3) {
            x.story(0, ALL_SO - worth);
            Lifts.numbers(x, 0, 8, 7);
            Due.is("only fact " + fact + " tells", x.word(0, 1, 0), fact);
            Due.is("two unlike floors", x.word(0, 1, 1), 2);
        }
        x.story(1, 6);
        Due.is("whatever the rider says", x.word(0, 1, 0), 7);
        Lifts.numbers(x, 0, 8);
        String[] texts = {"0", "9", "n*9", "h*9", "c*9", "h*3+n*7", "n*7+h*9+c*8", "9-h", "h*99+n*10", "n*4+c*4"};
        int[] unlike = {1, 1, 2, 2, 2, 3, 3, 2, 2, 2};
        for (int i = 0; i < texts.length; i++) {
            Lifts.text(x, 0, texts[i]);
            Due.is("unlike floors by " + texts[i], x.word(0, 0, 1), unlike[i]);
        }
        Lifts.text(x, 0, "5");
        Due.is("all floors alike", x.word(0, 0, 1), 1);
        Due.is("all floors alike", x.word(0, 0, 0), 0);
    }

    // ---- Promises 18 to 25

    @Sentence(of = "Promise 18", says = "TOGETHER (a set of RIDERS, one at least): FLOOR.")
    static void togetherOfOneAndOfAll() {
        LiftCredit x = sixBy("k");
        for (int rider = 0; rider <= 5; rider++) {
            Due.is("one", x.together(1 << rider), 1);
            Due.is("all up to " + rider, x.together((2 << rider) - 1), rider + 1);
        }
        Due.is("none", x.together(0), Due.BEYOND);
    }

    @Sentence(of = "Promise 18", says = "BEYOND.")
    static void togetherBeyond() {
        Twins.refused(Lifts::furnished, Due.BEYOND,
            x -> x.together(0), x -> x.together(32), x -> x.together(33), x -> x.together(63), x -> x.together(64),
            x -> x.together(-1), x -> x.together(MIN), x -> x.together(MAX), x -> x.together(MIN + 1));
        Twins.refused(Lifts::withSixRiders, Due.BEYOND, x -> x.together(64), x -> x.together(65), x -> x.together(-64));
        Twins.refused(LiftCredit::new, Due.BEYOND, x -> x.together(0), x -> x.together(1));
        Due.is("all of five", Lifts.furnished().together(31) >= 0 ? 1 : 0, 1);
    }

    @Sentence(of = "Promise 19", says = "BEST CROWD of a RIDER: what 0 the set, 1 its FLOOR.")
    static void bestWithTheFirstAndTheLast() {
        LiftCredit x = sixBy("(k=2)*4");
        Due.is("of the first", x.bestWith(0, 0), 3);
        Due.is("of the first", x.bestWith(0, 1), 4);
        Due.is("of the last", x.bestWith(5, 0), 33);
        Due.is("of the last", x.bestWith(5, 1), 4);
    }

    @Sentence(of = "Promise 19", says = "BEYOND.")
    static void bestWithBeyond() {
        Twins.refused(Lifts::furnished, Due.BEYOND,
            x -> x.bestWith(-1, 0), x -> x.bestWith(5, 0), x -> x.bestWith(0, -1), x -> x.bestWith(0, 2),
            x -> x.bestWith(MIN, 0), x -> x.bestWith(MAX, 0), x -> x.bestWith(0, MIN), x -> x.bestWith(0, MAX));
        Twins.refused(LiftCredit::new, Due.BEYOND, x -> x.bestWith(0, 0));
    }

    @Sentence(of = "Promise 20", says = "SHORTEST to f: the STORY.")
    static void shortestToTheGroundAndToTheTop() {
        LiftCredit x = Lifts.with(0, 0, 0, 0, 0, 49);
        Due.is("to 0", x.shortest(5, 0), 1);
        Due.is("to 9", x.shortest(5, 9), 1);
        Due.is("another's to 8", x.shortest(0, 8), ALL_SO);
    }

    @Sentence(of = "Promise 20", says = "BEYOND.")
    static void shortestBeyond() {
        Twins.refused(Lifts::furnished, Due.BEYOND,
            x -> x.shortest(-1, 0), x -> x.shortest(5, 0), x -> x.shortest(0, -1), x -> x.shortest(0, 10),
            x -> x.shortest(MIN, 0), x -> x.shortest(MAX, 0), x -> x.shortest(0, MIN), x -> x.shortest(0, MAX));
        Twins.refused(LiftCredit::new, Due.BEYOND, x -> x.shortest(0, 0));
    }

    @Sentence(of = "Promise 20", says = "NONE: with none.")
    static void shortestNone() {
        Twins.refused(Lifts::furnished, Due.NONE, x -> x.shortest(1, 6), x -> x.shortest(1, 9));
        Due.is("nine by eight facts", Lifts.with(0).shortest(0, 9), Due.NONE);
        LiftCredit x = Lifts.with(0);
        Lifts.text(x, 0, "0-99");
        Due.is("the ground is reached by any", x.shortest(0, 0), 1);
        Due.is("nothing else", x.shortest(0, 1), Due.NONE);
    }

    @Sentence(of = "Promise 21", says = "TRUE, to f: the STORY.")
    static void truestToTheGroundAndToTheTop() {
        LiftCredit x = Lifts.with(0, 0, 0, 0, 0, 49);
        x.world(254);
        Due.is("to 0", x.truest(5, 0), 2);
        Due.is("to 9", x.truest(5, 9), 2);
        Due.is("another's to 8", x.truest(0, 8), ALL_SO + 1);
    }

    @Sentence(of = "Promise 21", says = "BEYOND.")
    static void truestBeyond() {
        Twins.refused(Lifts::furnished, Due.BEYOND,
            x -> x.truest(-1, 0), x -> x.truest(5, 0), x -> x.truest(0, -1), x -> x.truest(0, 10),
            x -> x.truest(MIN, 0), x -> x.truest(MAX, 0), x -> x.truest(0, MIN), x -> x.truest(0, MAX));
        Twins.refused(LiftCredit::new, Due.BEYOND, x -> x.truest(0, 0));
    }

    @Sentence(of = "Promise 21", says = "NONE: with none.")
    static void truestNone() {
        Twins.refused(Lifts::furnished, Due.NONE, x -> x.truest(1, 6), x -> x.truest(1, 9));
        LiftCredit x = Lifts.hearing(Lifts.with(0), ALL_SO);
        Due.is("only lies reach it", x.truest(0, 1), Due.NONE);
        Due.is("a lie does", x.shortest(0, 1), 1);
    }

    @Sentence(of = "Promise 22", says = "OUT, to f: the set of FACTS.")
    static void outOfNoneAndOfSeven() {
        LiftCredit x = Lifts.saying(Lifts.with(0, 0, 0, 0, 0, 0), 0, 0, 0, 0, 0, ALL_SO);
        Due.is("none, to 8", x.out(5, 8), 0);
        x.hear(7, 2);
        Due.is("the last", x.out(5, 7), 128);
        x.hear(7, 1);
        Due.is("none, to 9", x.out(5, 9), 0);
        Lifts.hearing(x, 1 + 2 * 3279);
        Due.is("all but the first", x.out(5, 1), 254);
        Due.is("its story stays", x.ofRider(5, 2), ALL_SO);
    }

    @Sentence(of = "Promise 22", says = "BEYOND.")
    static void outBeyond() {
        Twins.refused(Lifts::furnished, Due.BEYOND,
            x -> x.out(-1, 0), x -> x.out(5, 0), x -> x.out(0, -1), x -> x.out(0, 10),
            x -> x.out(MIN, 0), x -> x.out(MAX, 0), x -> x.out(0, MIN), x -> x.out(0, MAX));
        Twins.refused(LiftCredit::new, Due.BEYOND, x -> x.out(0, 0));
    }

    @Sentence(of = "Promise 22", says = "NONE: not by any.")
    static void outNone() {
        Twins.refused(Lifts::furnished, Due.NONE, x -> x.out(1, 6), x -> x.out(1, 9));
        Due.is("who says nothing", Lifts.with(49).out(0, 0), Due.NONE);
    }

    @Sentence(of = "Promise 23", says = "WHEN.")
    static void whenNowAndLater() {
        LiftCredit x = Lifts.threeDays();
        Due.is("now", x.when(0, 3), 0);
        Due.is("behind three days", x.when(0, 4), 2);
        Due.is("to the top", Lifts.saying(Lifts.with(49), 1).when(0, 9), 0);
        LiftCredit y = Lifts.saying(Lifts.with(0, 0, 0, 0, 0, 0), 0, 0, 0, 0, 0, 13);
        Due.is("the last rider", y.when(5, 4), 1);
    }

    @Sentence(of = "Promise 23", says = "BEYOND.")
    static void whenBeyond() {
        Twins.refused(Lifts::furnished, Due.BEYOND,
            x -> x.when(-1, 0), x -> x.when(5, 0), x -> x.when(0, -1), x -> x.when(0, 10),
            x -> x.when(MIN, 0), x -> x.when(MAX, 0), x -> x.when(0, MIN), x -> x.when(0, MAX));
        Twins.refused(LiftCredit::new, Due.BEYOND, x -> x.when(0, 0));
    }

    @Sentence(of = "Promise 23", says = "NONE: not by 60.")
    static void whenNone() {
        Twins.refused(Lifts::furnished, Due.NONE, x -> x.when(1, 6), x -> x.when(1, 9));
        Twins.refused(() -> Lifts.late(2268), Due.NONE, x -> x.when(1, 2));
        Due.is("who says nothing", Lifts.with(49).when(0, 0), Due.NONE);
    }

    @Sentence(of = "Promise 24", says = "STILL.")
    static void stillNowAndLater() {
        Due.is("now", new LiftCredit().still(), 0);
        Due.is("behind three days", Lifts.threeDays().still(), 3);
    }

    @Sentence(of = "Promise 24", says = "NONE: not by 60.")
    static void stillNone() {
        Twins.refused(() -> Lifts.slow(4375), Due.NONE, x -> x.still());
        Twins.refused(Lifts::swing, Due.NONE, x -> x.still());
    }

    @Sentence(of = "Promise 25", says = "BEHIND n DAYS (0 to 60): what is HEARD.")
    static void thenBehindNoneAndSixtyDays() {
        LiftCredit x = Lifts.slow(4428);
        Due.is("then(0)", x.then(0), 4428);
        int sixty = x.then(60);
        int one = x.then(1);
        Due.is("then(1) comes to pass", x.days(1), one);
        Due.is("then(60) comes to pass", x.days(59), sixty);
        Due.is("nobody rides", Lifts.hearing(new LiftCredit(), 6560).then(60), 6560);
    }

    @Sentence(of = "Promise 25", says = "BEYOND.")
    static void thenBeyond() {
        Twins.refused(Lifts::furnished, Due.BEYOND,
            x -> x.then(-1), x -> x.then(61), x -> x.then(MIN), x -> x.then(MAX));
    }

    // ---- Promises 26 and 27

    @Sentence(of = "Promise 26", says = "BELIEVED, by a SHEET: what 0 how many, 1 the least.")
    static void believedByTheFirstAndTheLastSheet() {
        for (int sheet : new int[] {0, 3}) {
            LiftCredit x = Lifts.numbers(silentAndInspector(), sheet, 8, -1, 5);
            Due.is("how many", x.believed(sheet, 0), 2187);
            Due.is("the least", x.believed(sheet, 1), 2);
            Lifts.numbers(x, sheet, 8, -1, 9);
            Due.is("how many", x.believed(sheet, 0), 4374);
            Due.is("the least", x.believed(sheet, 1), 0);
        }
    }

    @Sentence(of = "Promise 26", says = "BEYOND.")
    static void believedBeyond() {
        Twins.refused(Lifts::furnished, Due.BEYOND,
            x -> x.believed(-1, 0), x -> x.believed(4, 0), x -> x.believed(0, -1), x -> x.believed(0, 2),
            x -> x.believed(3, 2), x -> x.believed(MIN, 0), x -> x.believed(MAX, 0), x -> x.believed(0, MIN),
            x -> x.believed(0, MAX));
    }

    @Sentence(of = "Promise 26", says = "NONE: the SHEET is missing, has more numbers than there are RIDERS; (what "
            + "1) there are none.")
    static void believedNone() {
        Twins.refused(Lifts::furnished, Due.NONE,
            x -> x.believed(3, 0), x -> x.believed(3, 1), x -> x.believed(0, 1), x -> x.believed(2, 1));
        Twins.refused(() -> Lifts.numbers(Lifts.furnished(), 0, 8, 0, 0, 0, 0, 0, 0), Due.NONE,
            x -> x.believed(0, 0), x -> x.believed(0, 1));
        Due.is("(what 0) there are none", Lifts.furnished().believed(0, 0), 0);
        LiftCredit six = Lifts.withSixRiders();
        six.sheet(0, 8, 6);
        Due.holds("as many numbers as riders", six.believed(0, 0) >= 0);
        six.sheet(0, 8, 7);
        Due.is("one more", six.believed(0, 0), Due.NONE);
        six.sheet(0, 8, 40);
        Due.is("as many as a sheet has", six.believed(0, 1), Due.NONE);
        LiftCredit none = Lifts.numbers(new LiftCredit(), 0, 8);
        Due.is("no riders, no numbers", none.believed(0, 0), 6561);
        none.sheet(0, 8, 1);
        Due.is("no riders, one number", none.believed(0, 0), Due.NONE);
    }

    @Sentence(of = "Promise 27", says = "WORD, by a SHEET, for a RIDER: what 0 the FACT, 1 how many unlike FLOORS.")
    static void wordByTheFirstAndTheLastSheet() {
        for (int sheet : new int[] {0, 3}) {
            LiftCredit x = Lifts.numbers(silentAndInspector(), sheet, 8, -1, 5);
            Due.is("the fact", x.word(sheet, 0, 0), 1);
            Due.is("how many", x.word(sheet, 0, 1), 3);
            Due.is("the fact", x.word(sheet, 1, 0), 1);
            Due.is("an inspector's 5, 9 and 9", x.word(sheet, 1, 1), 2);
        }
    }

    @Sentence(of = "Promise 27", says = "BEYOND.")
    static void wordBeyond() {
        Twins.refused(Lifts::furnished, Due.BEYOND,
            x -> x.word(-1, 0, 0), x -> x.word(4, 0, 0), x -> x.word(0, -1, 0), x -> x.word(0, 5, 0), x -> x.word(0, 0, -1),
            x -> x.word(0, 0, 2), x -> x.word(3, 5, 0), x -> x.word(3, 0, 2), x -> x.word(MIN, 0, 0),
            x -> x.word(MAX, 0, 0), x -> x.word(0, MIN, 0), x -> x.word(0, MAX, 0), x -> x.word(0, 0, MIN),
            x -> x.word(0, 0, MAX));
        Twins.refused(() -> Lifts.numbers(new LiftCredit(), 0, 8), Due.BEYOND, x -> x.word(0, 0, 0));
    }

    @Sentence(of = "Promise 27", says = "NONE: likewise; there are no such ways.")
    static void wordNone() {
        Twins.refused(Lifts::furnished, Due.NONE,
            x -> x.word(3, 0, 0), x -> x.word(3, 0, 1), x -> x.word(0, 0, 0), x -> x.word(0, 0, 1), x -> x.word(2, 4, 0));
        Twins.refused(() -> Lifts.numbers(Lifts.furnished(), 0, 8, 0, 0, 0, 0, 0, 0), Due.NONE,
            x -> x.word(0, 0, 0), x -> x.word(0, 0, 1));
        LiftCredit six = Lifts.withSixRiders();
        Lifts.saying(six, 0, 0, 0, 0, 0, 0);
        Lifts.numbers(six, 0, 8, -1, -1, -1, -1, -1, -1);
        Due.is("as many numbers as riders", six.word(0, 5, 0), 0);
        Lifts.numbers(six, 0, 8, -1, -1, -1, -1, -1, -1, -1);
        Due.is("one more", six.word(0, 5, 0), Due.NONE);
    }
}
