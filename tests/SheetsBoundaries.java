/** The boundaries in "Terms 4" and in promises 31 to 41: sheets, images, what is told. */
final class SheetsBoundaries {
    private static final int MIN = Integer.MIN_VALUE;
    private static final int MAX = Integer.MAX_VALUE;

    private SheetsBoundaries() {
    }

    /** Six riders who say nothing, for numbers to be seen as STORIES. */
    private static LiftCredit six() {
        return Lifts.with(0, 0, 0, 0, 0, 0);
    }

    /** That so many numbers are STORIES, and those. */
    private static void sheetIs(LiftCredit x, int sheet, int... due) {
        Due.is("stories(" + sheet + ")", x.stories(sheet), due.length);
        for (int i = 0; i < due.length; i++) {
            Due.is("number " + i + " of sheet " + sheet, x.ofRider(i, 2), due[i]);
        }
    }

    // ---- Terms 4, promises 31 and 32

    @Sentence(of = "Terms 4", says = "SHEETS 0 .. 3 are rows of 8, 16, 32 bits, at most 40 numbers, or missing (as "
            + "at first).")
    static void sheetsFromMissingToForty() {
        LiftCredit x = six();
        for (int sheet = 0; sheet <= 3; sheet++) {
            Due.is("missing at first", x.put(sheet, 0, 0), Due.NONE);
            for (int bits = 8; bits <= 32; bits *= 2) {
                Due.is("no number", x.sheet(sheet, bits, 0), 1);
                Due.is("not missing", x.put(sheet, 0, 0), Due.BEYOND);
                Due.is("40 numbers", x.sheet(sheet, bits, 40), 1);
                Due.is("the first", x.put(sheet, 0, 1), 1);
                Due.is("the last", x.put(sheet, 39, 1), 1);
                Due.is("one behind it", x.put(sheet, 40, 1), Due.BEYOND);
                Due.is("41 numbers", x.sheet(sheet, bits, 41), Due.BEYOND);
                Due.is("40 still", x.put(sheet, 39, 1), 1);
            }
            Due.is("missing again", x.sheet(sheet, 0, 0), 1);
            Due.is("missing again", x.put(sheet, 0, 0), Due.NONE);
        }
        Due.is("a fifth", x.sheet(4, 8, 1), Due.BEYOND);
    }

    @Sentence(of = "Promise 31", says = "A SHEET has n numbers, all 0, of so many bits (8, 16, 32; 0: it is missing, "
            + "n doesn't matter): 1.")
    static void sheetOfNoneOfFortyAndMissing() {
        LiftCredit x = six();
        for (int bits = 8; bits <= 32; bits *= 2) {
            Lifts.numbers(x, 0, bits, 1, 2, 3, 4, 5, 6);
            Due.is("six again", x.sheet(0, bits, 6), 1);
            sheetIs(x, 0, 0, 0, 0, 0, 0, 0);
            Lifts.numbers(x, 0, bits, 1, 2, 3, 4, 5, 6);
            Due.is("fewer", x.sheet(0, bits, 1), 1);
            Due.is("then more", x.sheet(0, bits, 6), 1);
            sheetIs(x, 0, 0, 0, 0, 0, 0, 0);
            x.sheet(0, bits, 40);
            x.put(0, 39, 5);
            Due.is("40 again", x.sheet(0, bits, 40), 1);
            x.move(0, 34, 0, 0, 6);
            sheetIs(x, 0, 0, 0, 0, 0, 0, 0);
        }
        for (int n : new int[] {0, 1, 40, 41, -1, MIN, MAX}) {
            x.sheet(0, 16, 3);
            Due.is("missing, whatever n " + n + " is", x.sheet(0, 0, n), 1);
            Due.is("it is", x.stories(0), Due.NONE);
        }
        Due.is("missing once more", x.sheet(0, 0, 0), 1);
    }

    @Sentence(of = "Promise 31", says = "BEYOND.")
    static void sheetBeyond() {
        Twins.refused(Lifts::furnished, Due.BEYOND,
            x -> x.sheet(-1, 8, 1), x -> x.sheet(4, 8, 1), x -> x.sheet(4, 0, 1), x -> x.sheet(0, 7, 1),
            x -> x.sheet(0, 9, 1), x -> x.sheet(0, 24, 1), x -> x.sheet(0, 64, 1), x -> x.sheet(0, 1, 1),
            x -> x.sheet(0, -8, 1), x -> x.sheet(0, 8, 41), x -> x.sheet(1, 16, 41), x -> x.sheet(2, 32, 41),
            x -> x.sheet(3, 8, MAX), x -> x.sheet(MIN, 8, 1), x -> x.sheet(MAX, 8, 1), x -> x.sheet(0, MIN, 1),
            x -> x.sheet(0, MAX, 1), x -> x.sheet(0, 9, -1), x -> x.sheet(-1, 8, -1), x -> x.sheet(4, 8, MIN));
    }

    @Sentence(of = "Promise 31", says = "STATE: n is below 0 (ahead of BEYOND of n).")
    static void sheetState() {
        Twins.refused(Lifts::furnished, Due.STATE,
            x -> x.sheet(0, 8, -1), x -> x.sheet(1, 16, -1), x -> x.sheet(2, 32, -41), x -> x.sheet(3, 8, -1),
            x -> x.sheet(0, 8, MIN));
    }

    @Sentence(of = "Promise 32", says = "Number i of a SHEET becomes v (its lowest bits): 1.")
    static void putTheLowestBits() {
        LiftCredit x = Lifts.with(0);
        int[][] stories = {
            {8, 0, 0}, {8, 127, 127}, {8, 256, 0}, {8, 256 + 127, 127}, {8, -256, 0}, {8, -256 + 9, 9}, {8, MIN, 0},
            {16, 6560, 6560}, {16, 65536, 0}, {16, 65536 + 6560, 6560}, {16, -65536 + 6, 6}, {16, MIN, 0},
            {16, 255, 255}, {32, 6560, 6560}, {32, 255, 255},
        };
        for (int[] row : stories) {
            Lifts.numbers(x, 0, row[0], 0, row[1], 0);
            x.move(0, 1, 0, 0, 1);
            x.story(0, 1);
            x.stories(0);
            Due.is("of " + row[1] + " in " + row[0] + " bits", x.ofRider(0, 2), row[2]);
        }
        int[][] none = {{8, 128}, {8, -1}, {8, MAX}, {16, 6561}, {16, 32768}, {16, MAX}, {32, 6561}, {32, 65536}, {32, MIN}};
        for (int[] row : none) {
            Lifts.numbers(x, 0, row[0], row[1]);
            Due.is("no story: " + row[1] + " in " + row[0] + " bits", x.stories(0), 0);
        }
        x.story(0, 0);
        int[][] cellar = {{8, -1}, {8, 255}, {8, MAX}, {16, -1}, {16, 65535}, {16, MAX}, {32, -1}};
        for (int[] row : cellar) {
            Lifts.numbers(x, 0, row[0], row[1]);
            Due.is("the cellar: " + row[1] + " in " + row[0] + " bits", x.judge(0), -1);
        }
        int[][] noCellar = {{8, 127}, {16, 255}, {16, 32767}, {32, 255}, {32, 65535}, {32, MAX}};
        for (int[] row : noCellar) {
            Lifts.numbers(x, 0, row[0], row[1]);
            Due.is("no cellar: " + row[1] + " in " + row[0] + " bits", x.judge(0), 0);
        }
    }

    @Sentence(of = "Promise 32", says = "BEYOND: no such SHEET.")
    static void putOnNoSuchSheet() {
        Twins.refused(Lifts::furnished, Due.BEYOND,
            x -> x.put(-1, 0, 1), x -> x.put(4, 0, 1), x -> x.put(MIN, 0, 1), x -> x.put(MAX, 0, 1), x -> x.put(4, -1, 1));
    }

    @Sentence(of = "Promise 32", says = "NONE: it is missing.")
    static void putOnAMissingSheet() {
        Twins.refused(Lifts::furnished, Due.NONE, x -> x.put(3, 0, 1), x -> x.put(3, -1, 1), x -> x.put(3, 40, 1));
        Twins.refused(LiftCredit::new, Due.NONE, x -> x.put(0, 0, 0));
    }

    @Sentence(of = "Promise 32", says = "BEYOND: no such number.")
    static void putNoSuchNumber() {
        Twins.refused(Lifts::furnished, Due.BEYOND,
            x -> x.put(0, -1, 1), x -> x.put(0, 4, 1), x -> x.put(1, 3, 1), x -> x.put(2, 2, 1), x -> x.put(0, 40, 1),
            x -> x.put(0, MIN, 1), x -> x.put(0, MAX, 1));
        Twins.refused(() -> Lifts.numbers(new LiftCredit(), 0, 8), Due.BEYOND, x -> x.put(0, 0, 0));
    }

    // ---- Promise 33

    @Sentence(of = "Promise 33", says = "n numbers of a SHEET, from number i on, come to another one (or the same), "
            + "from its number j on, as they all were: n.")
    static void moveOfNoneOfAllAndWithinOneSheet() {
        LiftCredit x = Lifts.numbers(Lifts.numbers(six(), 0, 16, 1, 2, 3, 4, 5, 6), 1, 16, 7, 8, 9);
        Due.is("none", x.move(0, 0, 1, 0, 0), 0);
        Due.is("none, behind the last numbers", x.move(0, 6, 1, 3, 0), 0);
        sheetIs(x, 1, 7, 8, 9);
        Due.is("the last to the last", x.move(0, 5, 1, 2, 1), 1);
        sheetIs(x, 1, 7, 8, 6);
        Due.is("as many as there are", x.move(0, 3, 1, 0, 3), 3);
        sheetIs(x, 1, 4, 5, 6);
        Due.is("all of one", x.move(1, 0, 0, 0, 3), 3);
        sheetIs(x, 0, 4, 5, 6, 4, 5, 6);
        Lifts.numbers(x, 0, 16, 1, 2, 3, 4, 5, 6);
        Due.is("upwards in itself", x.move(0, 0, 0, 1, 5), 5);
        sheetIs(x, 0, 1, 1, 2, 3, 4, 5);
        Lifts.numbers(x, 0, 16, 1, 2, 3, 4, 5, 6);
        Due.is("downwards in itself", x.move(0, 1, 0, 0, 5), 5);
        sheetIs(x, 0, 2, 3, 4, 5, 6, 6);
        Due.is("to where they are", x.move(0, 0, 0, 0, 6), 6);
        sheetIs(x, 0, 2, 3, 4, 5, 6, 6);
        LiftCredit y = Lifts.numbers(six(), 3, 8, 1);
        y.sheet(2, 8, 40);
        y.sheet(3, 8, 40);
        y.put(2, 39, 9);
        Due.is("40 of 40", y.move(2, 0, 3, 0, 40), 40);
        y.move(3, 39, 3, 0, 1);
        sheetIs(y, 3, 9, 0, 0, 0, 0, 0);
    }

    @Sentence(of = "Promise 33", says = "BEYOND: no such SHEET.")
    static void moveOfNoSuchSheet() {
        Twins.refused(Lifts::furnished, Due.BEYOND,
            x -> x.move(-1, 0, 0, 0, 1), x -> x.move(4, 0, 0, 0, 1), x -> x.move(0, 0, -1, 0, 1), x -> x.move(0, 0, 4, 0, 1),
            x -> x.move(3, 0, 4, 0, 1), x -> x.move(4, 0, 3, 0, 1), x -> x.move(MIN, 0, 0, 0, 1),
            x -> x.move(MAX, 0, 0, 0, 1), x -> x.move(0, 0, MIN, 0, 1), x -> x.move(0, 0, MAX, 0, 1));
    }

    @Sentence(of = "Promise 33", says = "NONE: one is missing.")
    static void moveWithOneMissing() {
        Twins.refused(Lifts::furnished, Due.NONE,
            x -> x.move(3, 0, 0, 0, 1), x -> x.move(0, 0, 3, 0, 1), x -> x.move(3, 0, 3, 0, 0), x -> x.move(0, -1, 3, 99, -1));
        Twins.refused(LiftCredit::new, Due.NONE, x -> x.move(0, 0, 1, 0, 0));
    }

    @Sentence(of = "Promise 33", says = "KIND: they are of unlike bits.")
    static void moveBetweenUnlikeBits() {
        Twins.refused(Lifts::furnished, Due.KIND,
            x -> x.move(0, 0, 1, 0, 1), x -> x.move(1, 0, 0, 0, 1), x -> x.move(1, 0, 2, 0, 1), x -> x.move(2, 0, 0, 0, 1),
            x -> x.move(0, 0, 1, 0, 0), x -> x.move(0, -1, 1, 99, -1));
    }

    @Sentence(of = "Promise 33", says = "BEYOND: n, i, or j is below 0, or they don't stand there.")
    static void moveOfNoSuchNumbers() {
        Twins.refused(() -> Lifts.numbers(Lifts.furnished(), 3, 8, 1, 2), Due.BEYOND,
            x -> x.move(0, 0, 3, 0, -1), x -> x.move(0, -1, 3, 0, 1), x -> x.move(0, 0, 3, -1, 1), x -> x.move(0, 4, 3, 0, 1),
            x -> x.move(0, 3, 3, 0, 2), x -> x.move(0, 0, 3, 2, 1), x -> x.move(0, 0, 3, 1, 2), x -> x.move(0, 0, 3, 0, 3),
            x -> x.move(3, 0, 0, 0, 3), x -> x.move(0, 5, 3, 0, 0), x -> x.move(0, 0, 3, 3, 0), x -> x.move(0, -1, 3, 0, 0),
            x -> x.move(0, 0, 3, -1, 0), x -> x.move(0, 0, 0, 1, 4), x -> x.move(0, 1, 0, 0, 4), x -> x.move(0, MAX, 3, 0, 1),
            x -> x.move(0, 1, 3, 0, MAX), x -> x.move(0, 0, 3, MAX, 2), x -> x.move(0, MAX, 3, MAX, MAX),
            x -> x.move(0, MIN, 3, 0, 1), x -> x.move(0, 0, 3, MIN, 1), x -> x.move(0, 0, 3, 0, MIN),
            x -> x.move(0, MIN, 3, MIN, MIN));
    }

    // ---- Promises 34 and 35

    @Sentence(of = "Promise 34", says = "Numbers of a SHEET become STORIES of RIDERS 0, 1, ..: how many, up to the "
            + "first that is not 0 to 6560 (no ERROR then), or for which there is no RIDER.")
    static void storiesOfNoneOfSomeAndOfAll() {
        LiftCredit x = Lifts.saying(six(), 11, 12, 13, 14, 15, 16);
        Lifts.numbers(x, 0, 16);
        Due.is("no number", x.stories(0), 0);
        Due.is("story 0 stays", x.ofRider(0, 2), 11);
        Lifts.numbers(x, 0, 16, 0, 6560);
        Due.is("two", x.stories(0), 2);
        Due.is("story 0", x.ofRider(0, 2), 0);
        Due.is("story 1", x.ofRider(1, 2), 6560);
        Due.is("story 2 stays", x.ofRider(2, 2), 13);
        Lifts.numbers(x, 0, 16, 7, 8, 6561, 9);
        Due.is("up to 6561", x.stories(0), 2);
        Due.is("story 1", x.ofRider(1, 2), 8);
        Due.is("story 2 stays", x.ofRider(2, 2), 13);
        Due.is("story 3 stays", x.ofRider(3, 2), 14);
        Lifts.numbers(x, 0, 16, -1, 9);
        Due.is("up to -1", x.stories(0), 0);
        Due.is("story 0 stays", x.ofRider(0, 2), 7);
        Lifts.numbers(x, 0, 8, 1, 2, 3, 4, 5, 6);
        Due.is("as many as riders", x.stories(0), 6);
        Lifts.numbers(x, 0, 8, 6, 5, 4, 3, 2, 1, 0);
        Due.is("one more", x.stories(0), 6);
        Due.is("the last story", x.ofRider(5, 2), 1);
        x.sheet(0, 8, 40);
        Due.is("40", x.stories(0), 6);
        Due.is("no riders", Lifts.numbers(new LiftCredit(), 0, 8, 1).stories(0), 0);
        for (int k = 1; k <= 5; k++) {
            Due.is("no ERROR", x.told(k), 0);
        }
    }

    @Sentence(of = "Promise 34", says = "BEYOND: no such SHEET.")
    static void storiesOfNoSuchSheet() {
        Twins.refused(Lifts::furnished, Due.BEYOND,
            x -> x.stories(-1), x -> x.stories(4), x -> x.stories(MIN), x -> x.stories(MAX));
    }

    @Sentence(of = "Promise 34", says = "NONE: it is missing.")
    static void storiesOfAMissingSheet() {
        Twins.refused(Lifts::furnished, Due.NONE, x -> x.stories(3));
        Twins.refused(LiftCredit::new, Due.NONE, x -> x.stories(0), x -> x.stories(3));
    }

    @Sentence(of = "Promise 35", says = "Numbers of a SHEET are FLOORS of RIDERS 0, 1, ..: the first that isn't so "
            + "(one that lacks, or is too many, too); -1: all are.")
    static void judgeFromTheFirstToOneTooMany() {
        int[][] due = {
            {-1, 1, -1, 9}, {0, 0, -1, 9}, {0, 2, 0, 0}, {1, 1, 0, 9}, {2, 1, -1, 8}, {0}, {1, 1}, {2, 1, -1},
            {3, 1, -1, 9, 0}, {3, 1, -1, 9, -1}, {2, 1, -1, 10, 0},
        };
        for (int[] row : due) {
            int[] floors = java.util.Arrays.copyOfRange(row, 1, row.length);
            for (int bits = 8; bits <= 32; bits *= 2) {
                LiftCredit x = Lifts.numbers(Lifts.saying(Lifts.with(0, 0, 49), 1, 0, 1), 3, bits, floors);
                Due.is("judge " + java.util.Arrays.toString(floors), x.judge(3), row[0]);
            }
        }
        LiftCredit ground = Lifts.hearing(Lifts.saying(Lifts.with(0, 0), 1, 1), 2);
        Due.is("no number for floor 0", Lifts.numbers(ground, 0, 8).judge(0), 0);
        Due.is("no second number for floor 0", Lifts.numbers(ground, 0, 8, 0).judge(0), 1);
        Due.is("both on floor 0", Lifts.numbers(ground, 0, 8, 0, 0).judge(0), -1);
        Due.is("nobody, no number", Lifts.numbers(new LiftCredit(), 0, 8).judge(0), -1);
        Due.is("nobody, one number", Lifts.numbers(new LiftCredit(), 0, 8, -1).judge(0), 0);
        Due.is("all of six", Lifts.numbers(six(), 0, 8, -1, -1, -1, -1, -1, -1).judge(0), -1);
        Due.is("the last of six", Lifts.numbers(six(), 0, 8, -1, -1, -1, -1, -1, 0).judge(0), 5);
        Due.is("one of 40", Lifts.numbers(six(), 0, 8, -1, -1, -1, -1, -1, -1, -1).judge(0), 6);
        Twins.onlyThought(Lifts::furnished, x -> x.judge(0));
    }

    @Sentence(of = "Promise 35", says = "BEYOND: no such SHEET.")
    static void judgeOfNoSuchSheet() {
        Twins.refused(Lifts::furnished, Due.BEYOND,
            x -> x.judge(-1), x -> x.judge(4), x -> x.judge(MIN), x -> x.judge(MAX));
    }

    @Sentence(of = "Promise 35", says = "NONE: it is missing.")
    static void judgeOfAMissingSheet() {
        Twins.refused(Lifts::furnished, Due.NONE, x -> x.judge(3));
        Twins.refused(LiftCredit::new, Due.NONE, x -> x.judge(0), x -> x.judge(3));
    }

    // ---- Promises 36 and 37

    /** Changes all that an IMAGE keeps, and all that it doesn't. */
    private static void changeAll(LiftCredit x) {
        x.check();
        x.tell(-1);
        x.text(0);
        Lifts.text(x, 0, "7");
        Lifts.text(x, 1, "8");
        Lifts.feed(x, "9+");
        x.rider(12);
        x.become(0, 66);
        Lifts.saying(x, 2000, 2001, 2002, 2003, 2004, 2005);
        x.world(128);
        x.trust(9);
        x.rumours(3);
        x.days(2);
        Lifts.hearing(x, 6000);
        x.seed(31);
    }

    @Sentence(of = "Promise 36", says = "All (but SHEETS, THE TRACE, what told() tells, and how often this was done) "
            + "is kept as an IMAGE, in place of one ahead: how often that was done.")
    static void imageInPlaceOfOneAhead() {
        LiftCredit x = new LiftCredit();
        Due.is("once", x.image(), 1);
        Due.is("twice", x.image(), 2);
        x.restore();
        Due.is("how often isn't kept", x.image(), 3);
        LiftCredit y = Lifts.furnished();
        LiftCredit twin = Lifts.furnished();
        Due.is("the second", y.image(), 2);
        twin.image();
        changeAll(y);
        y.restore();
        Twins.alike("the second, not the first", y, twin);
        LiftCredit z = Lifts.furnished();
        z.image();
        z.sheet(0, 32, 2);
        z.put(0, 1, 5);
        z.sheet(1, 0, 0);
        z.voice(0, 0, 3);
        z.hear(9, 9);
        z.restore();
        LiftCredit other = Lifts.furnished();
        other.image();
        other.sheet(0, 32, 2);
        other.put(0, 1, 5);
        other.sheet(1, 0, 0);
        other.voice(0, 0, 3);
        other.hear(9, 9);
        Twins.alike("sheets, trace and errors are as they became", z, other);
    }

    @Sentence(of = "Promise 37", says = "All is as the IMAGE has it, which stays: DAY.")
    static void restoreAgainAndAgain() {
        LiftCredit x = Lifts.furnished();
        LiftCredit twin = Lifts.furnished();
        Due.is("day", twin.restore(), 2);
        for (int times = 0; times < 3; times++) {
            changeAll(x);
            Due.is("day", x.restore(), 2);
        }
        Twins.alike("as restored once", x, twin);
        LiftCredit empty = new LiftCredit();
        empty.image();
        changeAll(empty);
        Due.is("day of an empty one", empty.restore(), 0);
        Due.is("no riders", empty.count(0), 0);
        Due.is("a rider again", empty.rider(20), 0);
        Due.is("who says nothing", empty.ofRider(0, 2), 0);
        Due.is("the texts there were: none", empty.law(0, 5, 1, 3) + empty.law(1, 20, 2, 1), 17);
        LiftCredit last = Lifts.onTheLastDay();
        last.restore();
        Due.is("the last day", last.count(1), 9999);
        LiftCredit full = Lifts.withTwentyWaiting();
        full.image();
        full.check();
        full.restore();
        Due.is("20 wait again", full.tell(0), Due.FULL);
        Due.is("as they did", full.check(), 0);
    }

    @Sentence(of = "Promise 37", says = "NONE: there is none.")
    static void restoreNone() {
        Twins.refused(LiftCredit::new, Due.NONE, x -> x.restore());
        Twins.refused(Lifts::threeDays, Due.NONE, x -> x.restore());
    }

    // ---- Promises 38 and 39

    @Sentence(of = "Promise 38", says = "One more number waits: how many.")
    static void tellOfOneToTwenty() {
        LiftCredit x = new LiftCredit();
        for (int i = 1; i <= 20; i++) {
            Due.is("number " + i, x.tell(i % 2 == 0 ? MIN : MAX), i);
            Due.is("they wait", x.count(8), i);
        }
        x.check();
        Due.is("one again", x.tell(Due.BEYOND), 1);
        Due.is("which is no ERROR", x.told(1), 0);
    }

    @Sentence(of = "Promise 38", says = "FULL: 20 wait.")
    static void tellFull() {
        Due.is("20 wait", Lifts.withTwentyWaiting().count(8), 20);
        Twins.refused(Lifts::withTwentyWaiting, Due.FULL, x -> x.tell(0), x -> x.tell(x.then(21)), x -> x.tell(-1));
    }

    @Sentence(of = "Promise 39", says = "The numbers that wait (none do then) are all that is HEARD behind 1, 2, .. "
            + "DAYS: 0; else 1 and the place (from 0) of the first that isn't so.")
    static void checkOfNoneOfOneAndOfTwenty() {
        LiftCredit x = Lifts.slow(4428);
        Due.is("none waits", x.check(), 0);
        x.tell(x.then(1));
        Due.is("one, as it will be", x.check(), 0);
        Due.is("none waits then", x.count(8), 0);
        x.tell(x.heard());
        Due.is("what is heard now isn't behind a day", x.check(), 1);
        Due.is("none waits then", x.count(8), 0);
        for (int wrong : new int[] {1, 2, 19, 20, 21}) {
            LiftCredit y = Lifts.slow(4428);
            for (int days = 1; days <= 20; days++) {
                y.tell(days == wrong || days == 20 && wrong < 19 ? 6561 : y.then(days));
            }
            Due.is("twenty, wrong from " + wrong, y.check(), wrong == 21 ? 0 : wrong);
            Due.is("none waits then", y.count(8), 0);
        }
        Due.is("heard as before", x.heard(), 4428);
        Due.is("no day", x.count(1), 0);
        Due.is("no ride", x.count(2), 0);
    }

    // ---- Promises 40 and 41

    @Sentence(of = "Promise 40", says = "0 RIDERS, 1 DAY, 2 RIDES, 3 of how many FACTS something is HEARD, 4 how "
            + "many of these are as in THE WORLD, 5 TRUST, 6 THE WORLD, 7 bytes of THE TAPE, 8 numbers that wait, 9 "
            + "BODIES in THE TRACE, 10 z (any number).")
    static void countsAtTheirEdges() {
        LiftCredit x = six();
        Lifts.hearing(x, 3280);
        Due.is("all is heard", x.count(3), 8);
        Due.is("nothing is so", x.count(4), 0);
        x.world(255);
        Due.is("all is so", x.count(4), 8);
        Lifts.hearing(x, 6560);
        Due.is("all is heard", x.count(3), 8);
        Due.is("nothing isn't so", x.count(4), 0);
        x.world(0);
        Due.is("all isn't so", x.count(4), 8);
        Lifts.hearing(x, 0);
        Due.is("nothing is heard", x.count(3), 0);
        Due.is("none of nothing", x.count(4), 0);
        x.hear(7, 2);
        Due.is("the last fact", x.count(3), 1);
        Due.is("the last fact", x.count(4), 1);
        Due.is("riders", x.count(0), 6);
        x.trust(9);
        Due.is("trust", x.count(5), 9);
        x.trust(0);
        Due.is("trust", x.count(5), 0);
        Due.is("the tape", Lifts.withFullTape().count(7), 50);
        Due.is("numbers that wait", Lifts.withTwentyWaiting().count(8), 20);
        Due.is("the last day", Lifts.onTheLastDay().count(1), 9999);
        Due.is("rides", Lifts.onTheLastDay().count(2), 9999);
        x.seed(Due.BEYOND);
        Due.is("z", x.count(10), Due.BEYOND);
        Due.is("which is no ERROR", x.told(1), 0);
        x.seed(MIN);
        Due.is("z", x.count(10), MIN);
    }

    @Sentence(of = "Promise 40", says = "BEYOND.")
    static void countBeyond() {
        Twins.refused(Lifts::furnished, Due.BEYOND,
            x -> x.count(-1), x -> x.count(11), x -> x.count(MIN), x -> x.count(MAX));
    }

    @Sentence(of = "Promise 41", says = "How many acts have answered an ERROR LOW - k (k 1 .. 5);")
    static void toldOfEachError() {
        LiftCredit x = six();
        for (int times = 0; times < 3; times++) {
            for (int k = 1; k <= 5; k++) {
                Due.is("told(" + k + ")", x.told(k), times);
            }
            x.hear(8, 0);
            x.trace(0);
            x.sheet(0, 8, -1);
            x.rider(0);
            x.as(0, 1);
        }
        LiftCredit y = new LiftCredit();
        for (int i = 0; i < 511; i++) {
            y.restore();
        }
        Due.is("behind 511 calls", y.told(2), 511);
    }

    @Sentence(of = "Promise 41", says = "BEYOND: another k (counted, too).")
    static void toldBeyond() {
        Twins.refused(Lifts::furnished, Due.BEYOND,
            x -> x.told(0), x -> x.told(6), x -> x.told(-1), x -> x.told(MIN), x -> x.told(MAX));
        LiftCredit x = new LiftCredit();
        x.told(0);
        x.told(6);
        Due.is("counted, too", x.told(1), 2);
        Due.is("a told that is fine is not", x.told(1), 2);
    }
}
