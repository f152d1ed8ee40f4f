/** The boundaries in "Terms" (the ERRORS, 1) and in promises 1 to 11: facts, riders. */
final class RidersBoundaries {
    private static final int MIN = Integer.MIN_VALUE;
    private static final int MAX = Integer.MAX_VALUE;
    private static final int ALL_SO = 3280;
    private static final int ALL_NOT_SO = 6560;

    private RidersBoundaries() {
    }

    // ---- Terms, ERRORS

    @Sentence(of = "Terms, ERRORS", says = "ERRORS are answers below -1000000000: LOW is -1000000000; LOW - 1 "
            + "BEYOND, LOW - 2 NONE, LOW - 3 STATE, LOW - 4 FULL, LOW - 5 KIND.")
    static void errorsAreNumbersBelowLow() {
        LiftCredit x = Lifts.with(0, 0, 0, 0, 0, 0);
        Due.is("BEYOND", x.hear(8, 0), -1000000001);
        Due.is("NONE", x.trace(0), -1000000002);
        Due.is("STATE", x.sheet(0, 8, -1), -1000000003);
        Due.is("FULL", x.rider(0), -1000000004);
        Due.is("KIND", x.as(0, 1), -1000000005);
        for (int answer = -1000000006; answer <= -1000000000; answer++) {
            Due.is("a voice may answer it", x.voice(0, 0, answer), answer);
        }
        for (int k = 1; k <= 5; k++) {
            Due.is("told once: " + k, x.told(k), 1);
        }
    }

    @Sentence(of = "Terms, ERRORS", says = "Each act tells its ERRORS in the order in which they are asked")
    static void errorsInTheirOrder() {
        LiftCredit x = Lifts.withSixRiders();
        Due.is("rider: BEYOND ahead of FULL", x.rider(70), Due.BEYOND);
        Due.is("as: BEYOND ahead of KIND", x.as(6, 1), Due.BEYOND);
        Due.is("as: BEYOND ahead of KIND", x.as(0, 7), Due.BEYOND);
        Due.is("shortest: BEYOND ahead of NONE", x.shortest(1, 10), Due.BEYOND);
        Due.is("truest: BEYOND ahead of NONE", x.truest(1, 10), Due.BEYOND);
        x.story(0, 0);
        Due.is("out: BEYOND ahead of NONE", x.out(0, 10), Due.BEYOND);
        Due.is("when: BEYOND ahead of NONE", x.when(0, 10), Due.BEYOND);
        Due.is("believed: BEYOND ahead of NONE", x.believed(3, 2), Due.BEYOND);
        Due.is("word: BEYOND ahead of NONE", x.word(3, 6, 0), Due.BEYOND);
        Due.is("word: BEYOND ahead of NONE", x.word(3, 0, 2), Due.BEYOND);
        Due.is("sheet: BEYOND ahead of STATE", x.sheet(4, 8, -1), Due.BEYOND);
        Due.is("sheet: BEYOND ahead of STATE", x.sheet(0, 9, -1), Due.BEYOND);
        Due.is("put: NONE ahead of BEYOND", x.put(3, -1, 0), Due.NONE);
        Due.is("move: BEYOND ahead of NONE", x.move(3, 0, 4, 0, 0), Due.BEYOND);
        Due.is("move: NONE ahead of KIND and BEYOND", x.move(0, -1, 3, -1, -1), Due.NONE);
        Due.is("move: KIND ahead of BEYOND", x.move(0, -1, 1, -1, -1), Due.KIND);
        Due.is("feed: BEYOND ahead of FULL", Lifts.withFullTape().feed(0, 9), Due.BEYOND);
        Due.is("days: BEYOND ahead of STATE", Lifts.onTheLastDay().days(61), Due.BEYOND);
        Due.is("rumours: BEYOND ahead of STATE", Lifts.onTheLastDay().rumours(41), Due.BEYOND);
    }

    @Sentence(of = "Terms, ERRORS", says = "one that answers an ERROR changes nothing but what told() tells.")
    static void anErrorChangesOnlyWhatToldTells() {
        Twins.refused(Lifts::furnished, Due.BEYOND, x -> x.story(0, 6561));
        Twins.refused(Lifts::furnished, Due.NONE, x -> x.put(3, 0, 0));
        Twins.refused(Lifts::furnished, Due.STATE, x -> x.sheet(1, 16, -1));
        Twins.refused(Lifts::withFullTape, Due.FULL, x -> x.feed(0, 1));
        Twins.refused(Lifts::furnished, Due.KIND, x -> x.move(0, 0, 1, 0, 1));
    }

    @Sentence(of = "Terms, ERRORS", says = "Quotients are cut (toward 0).")
    static void quotientsAreCutTowardZero() {
        LiftCredit x = Lifts.with(20);
        Due.is("17/3", x.law(1, 17, 3, 0), 5);
        Due.is("-17/3", x.law(1, -17, 3, 0), -5);
        Due.is("17/-3", x.law(1, 17, -3, 0), -5);
        Due.is("-17/-3", x.law(1, -17, -3, 0), 5);
        Due.is("-1/2", x.law(1, -1, 2, 0), 0);
        Lifts.text(x, 0, "c");
        x.story(0, 13);
        Lifts.hearing(x, 26);
        Due.is("half of 3", x.ofRider(0, 7), 1);
    }

    // ---- Terms 1: facts, stories

    @Sentence(of = "Terms 1", says = "FACTS 0 to 7.")
    static void factsAreEight() {
        LiftCredit x = Lifts.with(0);
        for (int fact = 0; fact <= 7; fact++) {
            Due.is("hear fact " + fact, x.hear(fact, 1), 0);
            Due.is("say fact " + fact, x.say(0, fact, 1), 0);
        }
        Due.is("all heard", x.heard(), ALL_SO);
        Due.is("all said", x.ofRider(0, 2), ALL_SO);
        for (int fact : new int[] {-1, 8, MIN, MAX}) {
            Due.is("hear fact " + fact, x.hear(fact, 2), Due.BEYOND);
            Due.is("say fact " + fact, x.say(0, fact, 2), Due.BEYOND);
        }
    }

    @Sentence(of = "Terms 1", says = "What THE LIFT has HEARD of each: so (1), not so (2), or nothing (0, at first).")
    static void nothingIsHeardAtFirst() {
        for (int fact = 0; fact <= 7; fact++) {
            LiftCredit x = new LiftCredit();
            Due.is("at first", x.hear(fact, 1), 0);
            Due.is("so", x.hear(fact, 2), 1);
            Due.is("not so", x.hear(fact, 0), 2);
            Due.is("nothing", x.hear(fact, 0), 0);
            Due.is("above not so", x.hear(fact, 3), Due.BEYOND);
            Due.is("below nothing", x.hear(fact, -1), Due.BEYOND);
        }
    }

    @Sentence(of = "Terms 1", says = "THE WORLD: which FACTS are so (a set; none at first), all others aren't.")
    static void noFactIsSoAtFirst() {
        LiftCredit x = Lifts.with(0);
        Due.is("a set of none", x.count(6), 0);
        x.story(0, ALL_NOT_SO);
        Due.is("all others aren't", x.ofRider(0, 9), 1);
        for (int fact = 0; fact <= 7; fact++) {
            x.story(0, 0);
            x.say(0, fact, 1);
            Due.is("fact " + fact + " isn't so", x.ofRider(0, 9), 0);
        }
        x.world(255);
        x.story(0, ALL_SO);
        Due.is("a set of all", x.ofRider(0, 9), 1);
    }

    @Sentence(of = "Terms 1", says = "A SAYING of a FACT: that it is so (1), not so (2), or nothing (0).")
    static void sayingsAreThree() {
        LiftCredit x = Lifts.with(0);
        for (int fact = 0; fact <= 7; fact++) {
            Due.is("nothing is said", x.say(0, fact, 1), 0);
            Due.is("so was said", x.say(0, fact, 2), 1);
            Due.is("not so was said", x.say(0, fact, 0), 2);
            Due.is("above not so", x.say(0, fact, 3), Due.BEYOND);
            Due.is("below nothing", x.say(0, fact, -1), Due.BEYOND);
            Due.is("nothing is said", x.ofRider(0, 2), 0);
        }
    }

    @Sentence(of = "Terms 1", says = "told as a number: its digits by 3, FACT 0 the lowest (0 to 6560).")
    static void storiesAreDigitsByThree() {
        LiftCredit x = Lifts.with(0);
        int worth = 1;
        for (int fact = 0; fact <= 7; fact++) {
            x.story(0, 0);
            x.say(0, fact, 1);
            Due.is("fact " + fact + " so", x.ofRider(0, 2), worth);
            x.say(0, fact, 2);
            Due.is("fact " + fact + " not so", x.ofRider(0, 2), 2 * worth);
            worth *= 3;
        }
        Due.is("the greatest", x.story(0, 6560), 4374);
        Due.is("the least", x.story(0, 0), 6560);
        Due.is("above it", x.story(0, 6561), Due.BEYOND);
        Due.is("below it", x.story(0, -1), Due.BEYOND);
    }

    @Sentence(of = "Terms 1", says = "LONG: how many SAYINGS aren't nothing.")
    static void longIsZeroToEight() {
        LiftCredit x = Lifts.with(0);
        Due.is("nothing said", x.ofRider(0, 3), 0);
        x.story(0, ALL_SO);
        Due.is("all so", x.ofRider(0, 3), 8);
        x.story(0, ALL_NOT_SO);
        Due.is("all not so", x.ofRider(0, 3), 8);
        x.story(0, 2187);
        Due.is("the last fact", x.ofRider(0, 3), 1);
    }

    // ---- Terms 1: riders, what they are credited

    @Sentence(of = "Terms 1", says = "RIDERS 0, 1, .. (at most 6), of KINDS: 0 RIDER; 1 CLERK, 2 LIAR, 3 WIDOW under "
            + "RIDER; 4 INSPECTOR under CLERK; 5 POET under LIAR; 6 SILENT under WIDOW")
    static void ridersAreSixOfSevenKinds() {
        LiftCredit x = new LiftCredit();
        for (int kind = 0; kind <= 5; kind++) {
            Due.is("rider " + kind, x.rider(10 * kind), kind);
        }
        Due.is("a seventh", x.rider(60), Due.FULL);
        x.become(5, 60);
        for (int rider = 0; rider <= 4; rider++) {
            Due.is("kind of rider " + rider, x.ofRider(rider, 0), rider);
        }
        Due.is("the last kind", x.ofRider(5, 0), 6);
        Due.is("a kind behind it", x.become(5, 70), Due.BEYOND);
        Due.is("a rider behind the last", x.ofRider(6, 0), Due.BEYOND);
        Due.is("an inspector is a clerk", x.as(4, 1), 0);
        Due.is("no liar", x.as(4, 2), Due.KIND);
        Due.is("a clerk is no inspector", x.as(1, 4), Due.KIND);
    }

    @Sentence(of = "Terms 1", says = "with a number m (0 to 9), and a STORY (0 at first).")
    static void mIsZeroToNineAndTheStoryNothing() {
        LiftCredit x = Lifts.with(0, 9, 60, 69);
        int[] due = {0, 9, 0, 9};
        for (int rider = 0; rider <= 3; rider++) {
            Due.is("m of rider " + rider, x.ofRider(rider, 1), due[rider]);
            Due.is("kind of rider " + rider, x.ofRider(rider, 0), rider < 2 ? 0 : 6);
            Due.is("story of rider " + rider, x.ofRider(rider, 2), 0);
        }
    }

    @Sentence(of = "Terms 1", says = "By a STORY and what was HEARD: h how many SAYINGS are as HEARD, c how many are "
            + "the other way round, n how many say what nothing was HEARD of.")
    static void tallyOfNothingAndOfAll() {
        int[][] due = {
            {0, 0, 0, 0, 0}, {0, ALL_SO, 0, 0, 0}, {0, ALL_NOT_SO, 0, 0, 0}, {ALL_SO, 0, 0, 0, 8},
            {ALL_NOT_SO, 0, 0, 0, 8}, {ALL_SO, ALL_SO, 8, 0, 0}, {ALL_NOT_SO, ALL_NOT_SO, 8, 0, 0},
            {ALL_SO, ALL_NOT_SO, 0, 8, 0}, {ALL_NOT_SO, ALL_SO, 0, 8, 0}, {2187, 4374, 0, 1, 0}, {1, 2187, 0, 0, 1},
        };
        for (int[] row : due) {
            LiftCredit x = Lifts.hearing(Lifts.saying(Lifts.with(0), row[0]), row[1]);
            for (int what = 4; what <= 6; what++) {
                String call = "story " + row[0] + ", heard " + row[1] + ", ofRider " + what;
                Due.is(call, x.ofRider(0, what), row[what - 2]);
            }
        }
    }

    /** Of one who says FACT 0 what CREDIT is where the TEXT gives a number. */
    private static int creditBy(int km, String text) {
        LiftCredit x = Lifts.saying(Lifts.with(km), 1);
        Lifts.text(x, 0, text);
        return x.ofRider(0, 7);
    }

    /** Of one who says all FACTS the CREDIT, by the TEXT, with c of them heard the other way round. */
    private static int creditWith(int km, String text, int c) {
        LiftCredit x = Lifts.saying(Lifts.with(km), ALL_SO);
        Lifts.text(x, 0, text);
        for (int fact = 0; fact < c; fact++) {
            x.hear(fact, 2);
        }
        return x.ofRider(0, 7);
    }

    @Sentence(of = "Terms 1", says = "CREDIT (by v, what the TEXT gives for h, c, n): RIDER: v.")
    static void aRidersCreditIsTheTexts() {
        Due.is("99", creditBy(9, "99"), 99);
        Due.is("-99", creditBy(9, "0-99"), -99);
        Due.is("held ahead", creditBy(0, "100"), 99);
        Due.is("all heard of the other way", creditWith(0, "c*10+n", 8), 80);
        Due.is("nothing heard", creditWith(0, "c*10+n", 0), 8);
    }

    @Sentence(of = "Terms 1", says = "CLERK: v, but 5 at most.")
    static void aClerksCreditIsFiveAtMost() {
        Due.is("below", creditBy(19, "4"), 4);
        Due.is("5", creditBy(19, "5"), 5);
        Due.is("above", creditBy(19, "6"), 5);
        Due.is("far above", creditBy(19, "99"), 5);
        Due.is("far below", creditBy(19, "0-99"), -99);
    }

    @Sentence(of = "Terms 1", says = "LIAR: what the TEXT gives with half of c in place of c.")
    static void aLiarsHalfIsCut() {
        for (int c = 0; c <= 8; c++) {
            Due.is("c " + c, creditWith(29, "c", c), c / 2);
            Due.is("n stays " + (8 - c), creditWith(29, "n", c), 8 - c);
        }
        Due.is("half of one is none", creditWith(29, "!c", 1), 1);
        Due.is("half of two is one", creditWith(29, "!c", 2), 0);
    }

    @Sentence(of = "Terms 1", says = "WIDOW: v; and 3 more, if c is 0.")
    static void aWidowIsCreditedMoreWithoutContradiction() {
        Due.is("c 0", creditWith(39, "7", 0), 10);
        Due.is("c 1", creditWith(39, "7", 1), 7);
        Due.is("c 8", creditWith(39, "7", 8), 7);
        Due.is("above what holds v", creditWith(39, "99", 0), 102);
    }

    @Sentence(of = "Terms 1", says = "INSPECTOR: as CLERK, and m.")
    static void anInspectorsRankIsAdded() {
        Due.is("m 0", creditBy(40, "99"), 5);
        Due.is("m 9", creditBy(49, "99"), 14);
        Due.is("m 9, v 4", creditBy(49, "4"), 13);
        Due.is("m 9, v -99", creditBy(49, "0-99"), -90);
    }

    @Sentence(of = "Terms 1", says = "POET: as LIAR; and n more.")
    static void aPoetIsCreditedForNews() {
        Due.is("n 8", creditWith(59, "99", 0), 107);
        Due.is("n 7, half of 1", creditWith(59, "c", 1), 7);
        Due.is("n 0, half of 8", creditWith(59, "c", 8), 4);
        Due.is("n 1, half of 7", creditWith(59, "c", 7), 4);
    }

    @Sentence(of = "Terms 1", says = "SILENT: as WIDOW; less LONG.")
    static void aSilentOneIsCreditedLessByLength() {
        Due.is("LONG 8, c 0", creditWith(69, "7", 0), 2);
        Due.is("LONG 8, c 1", creditWith(69, "7", 1), -1);
        Due.is("LONG 8, c 8", creditWith(69, "0-99", 8), -107);
        Due.is("LONG 1", creditBy(69, "7"), 9);
        Due.is("LONG 0", Lifts.with(69).ofRider(0, 7), 3);
    }

    @Sentence(of = "Terms 1", says = "FLOOR: CREDIT, held within 0 to 9;")
    static void floorsAreHeld() {
        String[] texts = {"0-99", "0-1", "0", "1", "8", "9", "10", "99"};
        int[] due = {0, 0, 0, 1, 8, 9, 9, 9};
        for (int i = 0; i < texts.length; i++) {
            LiftCredit x = Lifts.saying(Lifts.with(0), 1);
            Lifts.text(x, 0, texts[i]);
            Due.is("floor by " + texts[i], x.ofRider(0, 8), due[i]);
        }
    }

    @Sentence(of = "Terms 1", says = "-1 (the cellar), if LONG is 0.")
    static void whoSaysNothingStaysInTheCellar() {
        LiftCredit x = Lifts.with(0, 19, 29, 39, 49, 59);
        Lifts.text(x, 0, "99");
        x.trust(0);
        for (int rider = 0; rider <= 5; rider++) {
            Due.is("floor of kind " + rider, x.ofRider(rider, 8), -1);
            Due.is("ride of kind " + rider, x.ride(rider), -1);
        }
        x.become(0, 69);
        Due.is("floor of kind 6", x.ofRider(0, 8), -1);
        x.story(0, 1);
        Due.is("with a word", x.ofRider(0, 8), 9);
        x.say(0, 0, 0);
        Due.is("which is taken back", x.ofRider(0, 8), -1);
    }

    // ---- Terms 1: rides, days

    @Sentence(of = "Terms 1", says = "TRUST (0 to 9; 3 at first).")
    static void trustIsThreeAtFirst() {
        LiftCredit x = new LiftCredit();
        Due.is("at first", x.trust(0), 3);
        Due.is("the least", x.trust(9), 0);
        Due.is("the greatest", x.trust(3), 9);
        Due.is("below", x.trust(-1), Due.BEYOND);
        Due.is("above", x.trust(10), Due.BEYOND);
    }

    /** What is HEARD when a RIDER credited by the TEXT says FACTS 0 and 1, of which 0 is HEARD not so. */
    private static int heardBy(String text, int trust) {
        LiftCredit x = Lifts.saying(Lifts.with(0), 4);
        Lifts.text(x, 0, text);
        x.hear(0, 2);
        x.trust(trust);
        x.ride(0);
        return x.heard();
    }

    @Sentence(of = "Terms 1", says = "if that is TRUST or more, THE LIFT has HEARD from then on all that it says of "
            + "FACTS of which it had HEARD nothing;")
    static void trustItselfIsEnough() {
        for (int trust = 1; trust <= 9; trust++) {
            Due.is("floor below trust " + trust, heardBy(String.valueOf(trust - 1), trust), 2);
            Due.is("floor as trust " + trust, heardBy(String.valueOf(trust), trust), 5);
        }
        LiftCredit x = Lifts.saying(Lifts.with(0), ALL_SO);
        x.trust(8);
        x.ride(0);
        Due.is("all is heard", x.heard(), ALL_SO);
    }

    @Sentence(of = "Terms 1", says = "and if it is twice TRUST or more, of each FACT that it says the other way "
            + "round nothing is HEARD any more.")
    static void twiceTrustItselfIsEnough() {
        for (int trust = 1; trust <= 4; trust++) {
            Due.is("floor below twice " + trust, heardBy(String.valueOf(2 * trust - 1), trust), 5);
            Due.is("floor as twice " + trust, heardBy(String.valueOf(2 * trust), trust), 3);
        }
        Due.is("twice 0 is 0", heardBy("0", 0), 3);
        Due.is("below 0 is held at 0", heardBy("0-9", 0), 3);
        Due.is("twice 5 is never reached", heardBy("99", 5), 5);
        Due.is("twice 9 is never reached", heardBy("99", 9), 5);
        LiftCredit x = Lifts.hearing(Lifts.saying(Lifts.with(0), ALL_SO), ALL_NOT_SO);
        x.trust(0);
        x.ride(0);
        Due.is("all is given up, and none of it heard at once", x.heard(), 0);
    }

    @Sentence(of = "Terms 1", says = "RIDES (0 at first; 9999 at most) are 1 more.")
    static void ridesStopAt9999() {
        LiftCredit x = Lifts.with(0, 0, 0, 0, 0, 0);
        Due.is("at first", x.count(2), 0);
        x.ride(5);
        Due.is("one", x.count(2), 1);
        Lifts.onDay(x, 1665);
        Due.is("six a day", x.count(2), 9991);
        x.days(1);
        x.ride(0);
        Due.is("9998", x.count(2), 9998);
        x.ride(0);
        Due.is("the most", x.count(2), 9999);
        Due.is("a ride more is a ride", x.ride(0), -1);
        Due.is("the most still", x.count(2), 9999);
        x.days(60);
        Due.is("behind days, too", x.count(2), 9999);
        x.rumours(1);
        Due.is("behind rumours, too", x.count(2), 9999);
        LiftCredit y = Lifts.onDay(Lifts.with(0, 0, 0, 0, 0, 0), 1666);
        Due.is("9996", y.count(2), 9996);
        y.days(1);
        Due.is("a day that would lead beyond", y.count(2), 9999);
    }

    @Sentence(of = "Terms 1", says = "A DAY: all RIDERS by numbers RIDE.")
    static void aDayOfNoneAndOfSix() {
        LiftCredit none = new LiftCredit();
        Due.is("heard", none.days(1), 0);
        Due.is("rides of none", none.count(2), 0);
        Due.is("a day nevertheless", none.count(1), 1);
        LiftCredit six = Lifts.saying(Lifts.with(0, 0, 0, 0, 0, 0), 2, 1, 4, 12, 36, 108);
        six.trust(1);
        Due.is("each hears those ahead, the first first", six.days(1), 2 + 3 + 9 + 27 + 81);
        Due.is("rides of six", six.count(2), 6);
    }

    @Sentence(of = "Terms 1", says = "DAY (0 to 9999; 0 at first) is 1 more.")
    static void daysEndAt9999() {
        LiftCredit x = new LiftCredit();
        Due.is("at first", x.count(1), 0);
        x.days(1);
        Due.is("the first", x.count(1), 1);
        Lifts.onDay(x, 9998);
        x.days(1);
        Due.is("the last", x.count(1), 9999);
        Due.is("none more", x.days(1), Due.STATE);
        Due.is("none more by draws", x.rumours(1), Due.STATE);
        Due.is("the last still", x.count(1), 9999);
    }

    // ---- Promise 1: a new object

    @Sentence(of = "Promise 1", says = "All as at first; no RIDERS.")
    static void aNewLiftIsEmpty() {
        LiftCredit x = new LiftCredit();
        int[] first = {0, 0, 0, 0, 0, 3, 0, 0, 0, 0, 1};
        for (int what = 0; what <= 10; what++) {
            Due.is("count(" + what + ")", x.count(what), first[what]);
        }
        for (int k = 1; k <= 5; k++) {
            Due.is("told(" + k + ")", x.told(k), 0);
        }
        Due.is("heard", x.heard(), 0);
        Due.is("no rider 0", x.ofRider(0, 0), Due.BEYOND);
        Due.is("no body in the trace", x.trace(0), Due.NONE);
        for (int sheet = 0; sheet <= 3; sheet++) {
            Due.is("sheet " + sheet + " is missing", x.judge(sheet), Due.NONE);
        }
        Due.is("no image", x.restore(), Due.NONE);
        Due.is("images", x.image(), 1);
        Due.is("credit without a text", x.law(0, 5, 1, 3), 9);
        Due.is("a crowd without a text", x.law(1, 20, 2, 1), 8);
        Due.is("no number waits", x.check(), 0);
        Lifts.withSixRiders();
        Twins.alike("whatever befell another", new LiftCredit(), new LiftCredit());
    }

    // ---- Promises 2 to 5: hear, heard, world, trust

    @Sentence(of = "Promise 2", says = "What is HEARD of a FACT becomes v: what it was.")
    static void hearAtTheFirstAndTheLastFact() {
        LiftCredit x = Lifts.hearing(new LiftCredit(), 5 * 9);
        Due.is("fact 0 so", x.hear(0, 1), 0);
        Due.is("as it is", x.hear(0, 1), 1);
        Due.is("fact 7 not so", x.hear(7, 2), 0);
        Due.is("as it is", x.hear(7, 2), 2);
        Due.is("those between stay", x.heard(), 1 + 45 + 4374);
        Due.is("fact 0 nothing", x.hear(0, 0), 1);
        Due.is("fact 7 nothing", x.hear(7, 0), 2);
        Due.is("those between stay", x.heard(), 45);
    }

    @Sentence(of = "Promise 2", says = "BEYOND.")
    static void hearBeyond() {
        Twins.refused(Lifts::furnished, Due.BEYOND,
            x -> x.hear(-1, 1), x -> x.hear(8, 1), x -> x.hear(0, -1), x -> x.hear(0, 3), x -> x.hear(7, 3),
            x -> x.hear(MIN, 0), x -> x.hear(MAX, 0), x -> x.hear(0, MIN), x -> x.hear(0, MAX), x -> x.hear(32, 1));
    }

    @Sentence(of = "Promise 3", says = "All that is HEARD, as a number like that of a STORY.")
    static void heardFromNothingToAll() {
        LiftCredit x = new LiftCredit();
        Due.is("nothing", x.heard(), 0);
        Due.is("all so", Lifts.hearing(x, ALL_SO).heard(), 3280);
        Due.is("all not so", Lifts.hearing(x, ALL_NOT_SO).heard(), 6560);
        Due.is("the lowest", Lifts.hearing(x, 1).heard(), 1);
        Due.is("the highest", Lifts.hearing(x, 4374).heard(), 4374);
    }

    @Sentence(of = "Promise 4", says = "THE WORLD becomes a set (0 to 255): what it was.")
    static void worldFromNoneToAll() {
        LiftCredit x = new LiftCredit();
        Due.is("all", x.world(255), 0);
        Due.is("none", x.world(0), 255);
        Due.is("the lowest", x.world(1), 0);
        Due.is("the highest", x.world(128), 1);
        Due.is("it is", x.count(6), 128);
    }

    @Sentence(of = "Promise 4", says = "BEYOND.")
    static void worldBeyond() {
        Twins.refused(Lifts::furnished, Due.BEYOND,
            x -> x.world(-1), x -> x.world(256), x -> x.world(MIN), x -> x.world(MAX));
    }

    @Sentence(of = "Promise 5", says = "TRUST becomes v: what it was.")
    static void trustFromNoneToNine() {
        LiftCredit x = new LiftCredit();
        for (int v = 0; v <= 9; v++) {
            Due.is("trust " + v, x.trust(v), v == 0 ? 3 : v - 1);
            Due.is("it is", x.count(5), v);
        }
        Due.is("as it is", x.trust(9), 9);
    }

    @Sentence(of = "Promise 5", says = "BEYOND.")
    static void trustBeyond() {
        Twins.refused(Lifts::furnished, Due.BEYOND,
            x -> x.trust(-1), x -> x.trust(10), x -> x.trust(MIN), x -> x.trust(MAX));
    }

    // ---- Promises 6 to 11: riders

    @Sentence(of = "Promise 6", says = "A RIDER (km: 10 times the KIND, and m): its number.")
    static void riderOfTheFirstAndTheLastKind() {
        LiftCredit x = new LiftCredit();
        int[] kms = {0, 9, 10, 59, 60, 69};
        for (int number = 0; number < kms.length; number++) {
            Due.is("rider(" + kms[number] + ")", x.rider(kms[number]), number);
            Due.is("its kind", x.ofRider(number, 0), kms[number] / 10);
            Due.is("its m", x.ofRider(number, 1), kms[number] % 10);
            Due.is("riders", x.count(0), number + 1);
        }
    }

    @Sentence(of = "Promise 6", says = "BEYOND.")
    static void riderBeyond() {
        Twins.refused(Lifts::furnished, Due.BEYOND,
            x -> x.rider(-1), x -> x.rider(70), x -> x.rider(MIN), x -> x.rider(MAX), x -> x.rider(-10));
        Twins.refused(Lifts::withSixRiders, Due.BEYOND, x -> x.rider(-1), x -> x.rider(70));
    }

    @Sentence(of = "Promise 6", says = "FULL.")
    static void riderFull() {
        Twins.refused(Lifts::withSixRiders, Due.FULL, x -> x.rider(0), x -> x.rider(69));
        Due.is("the sixth is taken", Lifts.furnished().rider(0), 5);
    }

    @Sentence(of = "Promise 7", says = "7 CREDIT (any number), 8 FLOOR, 9 whether its STORY is all so in THE WORLD.")
    static void ofRiderAtItsEdges() {
        Due.is("CREDIT above all v", creditWith(59, "99", 0), 107);
        Due.is("CREDIT below all v", creditWith(69, "0-99", 1), -107);
        LiftCredit x = Lifts.with(0);
        x.world(255);
        Due.is("a STORY of nothing is all so", x.ofRider(0, 9), 1);
        x.story(0, ALL_SO);
        Due.is("all is so", x.ofRider(0, 9), 1);
        x.world(127);
        Due.is("all but the last", x.ofRider(0, 9), 0);
        x.world(254);
        Due.is("all but the first", x.ofRider(0, 9), 0);
        x.world(0);
        x.story(0, ALL_NOT_SO);
        Due.is("nothing is so", x.ofRider(0, 9), 1);
        x.world(128);
        Due.is("nothing but the last", x.ofRider(0, 9), 0);
    }

    @Sentence(of = "Promise 7", says = "BEYOND.")
    static void ofRiderBeyond() {
        Twins.refused(Lifts::furnished, Due.BEYOND,
            x -> x.ofRider(-1, 0), x -> x.ofRider(5, 0), x -> x.ofRider(6, 0), x -> x.ofRider(0, -1),
            x -> x.ofRider(0, 10), x -> x.ofRider(MIN, 0), x -> x.ofRider(MAX, 0), x -> x.ofRider(0, MIN),
            x -> x.ofRider(0, MAX));
        Twins.refused(LiftCredit::new, Due.BEYOND, x -> x.ofRider(0, 0));
        Due.is("the sixth is one", Lifts.withSixRiders().ofRider(5, 0), 6);
    }

    @Sentence(of = "Promise 8", says = "STORY of a RIDER becomes a number: what it was.")
    static void storyFromNothingToAll() {
        LiftCredit x = Lifts.withSixRiders();
        Due.is("all not so", x.story(5, 6560), 12);
        Due.is("nothing", x.story(5, 0), 6560);
        Due.is("nothing again", x.story(5, 0), 0);
        Due.is("the first rider", x.story(0, 6560), 1);
        Due.is("another's stays", x.ofRider(4, 2), 5);
    }

    @Sentence(of = "Promise 8", says = "BEYOND.")
    static void storyBeyond() {
        Twins.refused(Lifts::furnished, Due.BEYOND,
            x -> x.story(-1, 0), x -> x.story(5, 0), x -> x.story(0, -1), x -> x.story(0, 6561),
            x -> x.story(MIN, 0), x -> x.story(MAX, 0), x -> x.story(0, MIN), x -> x.story(0, MAX));
        Twins.refused(LiftCredit::new, Due.BEYOND, x -> x.story(0, 0));
    }

    @Sentence(of = "Promise 9", says = "A SAYING of a RIDER becomes v: what it was.")
    static void sayAtTheFirstAndTheLastFact() {
        LiftCredit x = Lifts.withSixRiders();
        x.story(5, 45);
        Due.is("fact 0 not so", x.say(5, 0, 2), 0);
        Due.is("fact 7 so", x.say(5, 7, 1), 0);
        Due.is("those between stay", x.ofRider(5, 2), 2 + 45 + 2187);
        Due.is("as it is", x.say(5, 7, 1), 1);
        Due.is("fact 7 nothing", x.say(5, 7, 0), 1);
        Due.is("fact 0 nothing", x.say(5, 0, 0), 2);
        Due.is("those between stay", x.ofRider(5, 2), 45);
        Due.is("another's stays", x.ofRider(4, 2), 5);
    }

    @Sentence(of = "Promise 9", says = "BEYOND.")
    static void sayBeyond() {
        Twins.refused(Lifts::furnished, Due.BEYOND,
            x -> x.say(-1, 0, 1), x -> x.say(5, 0, 1), x -> x.say(0, -1, 1), x -> x.say(0, 8, 1),
            x -> x.say(0, 0, -1), x -> x.say(0, 0, 3), x -> x.say(MIN, 0, 1), x -> x.say(MAX, 0, 1),
            x -> x.say(0, MIN, 1), x -> x.say(0, MAX, 1), x -> x.say(0, 0, MIN), x -> x.say(0, 0, MAX));
        Twins.refused(LiftCredit::new, Due.BEYOND, x -> x.say(0, 0, 0));
    }

    @Sentence(of = "Promise 10", says = "A RIDER becomes one of a KIND, with m (km): the KIND that it was.")
    static void becomeOfTheFirstAndTheLastKind() {
        LiftCredit x = Lifts.withSixRiders();
        Due.is("the last kind", x.become(0, 69), 0);
        Due.is("its m", x.ofRider(0, 1), 9);
        Due.is("the first kind", x.become(0, 0), 6);
        Due.is("its m", x.ofRider(0, 1), 0);
        Due.is("the last rider", x.become(5, 10), 6);
        Due.is("the same kind", x.become(5, 19), 1);
        Due.is("another m", x.ofRider(5, 1), 9);
        Due.is("the story stays", x.ofRider(5, 2), 12);
        Due.is("the number stays", x.voice(5, 0, 0), 15);
    }

    @Sentence(of = "Promise 10", says = "BEYOND.")
    static void becomeBeyond() {
        Twins.refused(Lifts::furnished, Due.BEYOND,
            x -> x.become(-1, 0), x -> x.become(5, 0), x -> x.become(0, -1), x -> x.become(0, 70),
            x -> x.become(MIN, 0), x -> x.become(MAX, 0), x -> x.become(0, MIN), x -> x.become(0, MAX));
        Twins.refused(LiftCredit::new, Due.BEYOND, x -> x.become(0, 0));
    }

    @Sentence(of = "Promise 11", says = "A RIDER as one of a KIND: m.")
    static void asOneOfEachKindAbove() {
        int[][] kindsOf = {{0}, {1, 0}, {2, 0}, {3, 0}, {4, 1, 0}, {5, 2, 0}, {6, 3, 0}};
        for (int kind = 0; kind <= 6; kind++) {
            for (int m : new int[] {0, 9}) {
                LiftCredit x = Lifts.with(10 * kind + m);
                for (int above : kindsOf[kind]) {
                    Due.is("kind " + kind + " as " + above, x.as(0, above), m);
                }
            }
        }
    }

    @Sentence(of = "Promise 11", says = "BEYOND.")
    static void asBeyond() {
        Twins.refused(Lifts::furnished, Due.BEYOND,
            x -> x.as(-1, 0), x -> x.as(5, 0), x -> x.as(0, -1), x -> x.as(0, 7), x -> x.as(MIN, 0),
            x -> x.as(MAX, 0), x -> x.as(0, MIN), x -> x.as(0, MAX));
        Twins.refused(LiftCredit::new, Due.BEYOND, x -> x.as(0, 0));
    }

    @Sentence(of = "Promise 11", says = "KIND: it isn't of that KIND, nor of one under it.")
    static void asOneOfAnotherKind() {
        Twins.refused(Lifts::withSixRiders, Due.KIND,
            x -> x.as(0, 1), x -> x.as(0, 2), x -> x.as(0, 3), x -> x.as(0, 4), x -> x.as(0, 5), x -> x.as(0, 6),
            x -> x.as(1, 2), x -> x.as(1, 3), x -> x.as(1, 4), x -> x.as(1, 5), x -> x.as(1, 6),
            x -> x.as(3, 1), x -> x.as(3, 2), x -> x.as(3, 4), x -> x.as(3, 5), x -> x.as(3, 6),
            x -> x.as(4, 2), x -> x.as(4, 3), x -> x.as(4, 5), x -> x.as(4, 6),
            x -> x.as(5, 1), x -> x.as(5, 2), x -> x.as(5, 4), x -> x.as(5, 5));
        for (int kind : new int[] {1, 3, 4, 5, 6}) {
            Due.is("a liar as " + kind, Lifts.with(20).as(0, kind), Due.KIND);
        }
        for (int kind : new int[] {1, 3, 4, 6}) {
            Due.is("a poet as " + kind, Lifts.with(50).as(0, kind), Due.KIND);
        }
    }
}
