/** The boundaries in "Terms 2" and in promises 12 to 14: texts. */
final class TextsBoundaries {
    private static final int MIN = Integer.MIN_VALUE;
    private static final int MAX = Integer.MAX_VALUE;
    private static final String FORTY_EIGHT_BYTES = "1+1+1+1+1+1+1+1+1+1+1+1+1+1+1+1+1+1+1+1+1+1+1+1+";

    private TextsBoundaries() {
    }

    /** Of each TEXT (of CREDIT) the FAULT; -1, if it has none. */
    private static void faults(Object... textsAndFaults) {
        for (int i = 0; i < textsAndFaults.length; i += 2) {
            String text = (String) textsAndFaults[i];
            int fault = (Integer) textsAndFaults[i + 1];
            int due = fault < 0 ? 1 : -10 - fault;
            Due.is("text(0) of \"" + text + "\"", Lifts.text(new LiftCredit(), 0, text), due);
        }
    }

    private static void gives(String text, int h, int c, int n, int due) {
        LiftCredit x = new LiftCredit();
        Due.is("text(0) of \"" + text + "\"", Lifts.text(x, 0, text), 1);
        Due.is("\"" + text + "\" of " + h + ", " + c + ", " + n, x.law(0, h, c, n), due);
    }

    // ---- Terms 2: how a TEXT is read

    @Sentence(of = "Terms 2", says = "TEXTS are read from THE TAPE (bytes, at most 50):")
    static void textsOfFiftyBytes() {
        LiftCredit x = new LiftCredit();
        Lifts.feed(x, FORTY_EIGHT_BYTES + "11");
        Due.is("50 bytes", x.count(7), 50);
        Due.is("one more", x.feed('1', 1), Due.FULL);
        Due.is("a text of 50 bytes", x.text(0), 1);
        Due.is("all is read", x.law(0, 0, 0, 0), 35);
        x.feed(0x68, 1);
        Due.is("a byte that is h", x.text(0), 1);
        x.feed(0x68 + 128, 1);
        Due.is("128 more isn't", x.text(0), -10);
        x.feed(0, 1);
        Due.is("nor is 0", x.text(0), -10);
        x.feed(0x1068L, 2);
        Due.is("bytes are not joined", x.text(0), -11);
    }

    @Sentence(of = "Terms 2", says = "T: A { | A }.")
    static void oneOrMoreParted() {
        faults("5", -1, "0|0", -1, "|", 0, "|5", 0, "5|", 2, "5||5", 2, "5|&5", 2, "5|)", 2);
        gives("0|0|0|0|0|0|0|0|0|0|0|0|0|0|0|0|0|0|0|0|0|0|0|0|7", 0, 0, 0, 1);
        gives("0|0|0|0|0|0|0|0|0|0|0|0|0|0|0|0|0|0|0|0|0|0|0|0|0", 0, 0, 0, 0);
        gives("5", 0, 0, 0, 5);
    }

    @Sentence(of = "Terms 2", says = "A: B { & B }.")
    static void oneOrMoreJoined() {
        faults("5&5", -1, "&", 0, "&5", 0, "5&", 2, "5&&5", 2, "5&|5", 2);
        gives("7&7&7&7&7&7&7&7&7&7&7&7&7&7&7&7&7&7&7&7&7&7&7&7&7", 0, 0, 0, 1);
        gives("7&7&7&7&7&7&7&7&7&7&7&7&7&7&7&7&7&7&7&7&7&7&7&7&0", 0, 0, 0, 0);
        gives("1|0&0", 0, 0, 0, 1);
        gives("0&0|1", 0, 0, 0, 1);
    }

    @Sentence(of = "Terms 2", says = "B: S, or S < S, S = S, S > S.")
    static void oneComparisonAtMost() {
        faults("h<n", -1, "h=n", -1, "h>n", -1, "h<n<c", 3, "h<n=c", 3, "h=n>c", 3, "h>n+1>c", 5, "h<", 2, "<n", 0,
            "h<=n", 2, "h==n", 2, "h<>n", 2, "(h<n)<c", -1, "h<(n<c)", -1, "h<n&n<c", -1, "h<n|n<c", -1, "(h<n<c)", 4);
        gives("h<n", 3, 0, 4, 1);
        gives("h<n", 4, 0, 4, 0);
        gives("h=n", 4, 0, 4, 1);
        gives("h=n", 5, 0, 4, 0);
        gives("h>n", 5, 0, 4, 1);
        gives("h>n", 4, 0, 4, 0);
        gives("h<n", MIN, 0, MAX, 1);
        gives("h>n", MIN, 0, MAX, 0);
    }

    @Sentence(of = "Terms 2", says = "S: P { + P, - P }.")
    static void oneOrMoreAdded() {
        faults("5+5", -1, "5-5", -1, "+5", 0, "-5", 0, "5+", 2, "5-", 2, "5++5", 2, "5--5", 2, "5+-5", 2, "(-5)", 1);
        gives(FORTY_EIGHT_BYTES + "1", 0, 0, 0, 25);
        gives("9-2-3", 0, 0, 0, 4);
        gives("9-2+3", 0, 0, 0, 10);
        gives("9-(2+3)", 0, 0, 0, 4);
    }

    @Sentence(of = "Terms 2", says = "P: Q { * Q, / Q, % Q }.")
    static void oneOrMoreMultiplied() {
        faults("5*5", -1, "5/5", -1, "5%5", -1, "*5", 0, "/5", 0, "%5", 0, "5*", 2, "5/", 2, "5%", 2, "5**5", 2, "5*-5", 2);
        gives("1*1*1*1*1*1*1*1*1*1*1*1*1*1*1*1*1*1*1*1*1*1*1*1*7", 0, 0, 0, 7);
        gives("40/4/5", 0, 0, 0, 2);
        gives("40/4*5", 0, 0, 0, 50);
        gives("40%7*2", 0, 0, 0, 10);
        gives("1+2*3", 0, 0, 0, 7);
    }

    @Sentence(of = "Terms 2", says = "Q: a NUMBER of 1 to 4 digits,")
    static void numbersOfOneToFourDigits() {
        faults("0", -1, "9", -1, "0000", -1, "9999", -1, "00000", 4, "12345", 4, "1234567890", 4, "h+1234", -1,
            "h+12345", 6, "(12345)", 5, "!12345", 5, "12345+", 4, "1+", 2, "1.0", 1, "1h", 1, "h1", 1);
        gives("9999-9990", 0, 0, 0, 9);
        gives("0012", 0, 0, 0, 12);
        gives("0", 7, 7, 7, 0);
    }

    @Sentence(of = "Terms 2", says = "a NAME, ! Q, ( T ).")
    static void namesNotsAndBrackets() {
        faults("h", -1, "n", -1, "c", -1, "s", 0, "k", 0, "d", 0, "H", 0, "g", 0, "i", 0, "hn", 1, "h(n)", 1, "!", 1,
            "!h", -1, "!!h", -1, "h!", 1, "!+h", 1, "!(", 2, "()", 1, "(", 1, "(h", 2, "(h)", -1, "h)", 1, "(h))", 3,
            "((h)", 4, "(h)(n)", 3, "(h)n", 3, "[h]", 0, "(h]", 2);
        String[] crowdNames = {"s", "k", "d", "h", "n", "c"};
        for (int i = 0; i < crowdNames.length; i++) {
            int answer = Lifts.text(new LiftCredit(), 1, crowdNames[i]);
            Due.is("text(1) of " + crowdNames[i], answer, i < 3 ? 1 : -10);
        }
    }

    @Sentence(of = "Terms 2", says = "No blanks.")
    static void blanksAreFaults() {
        faults(" ", 0, " h", 0, "h ", 1, "h +n", 1, "h+ n", 2, "( h)", 1, "(h )", 2, "1 2", 1, "! h", 1, "h\t", 1,
            "h\n", 1, "\nh", 0, "h\0", 1, "h\u00a0", 1);
    }

    @Sentence(of = "Terms 2", says = "At most 5 of ! and ( are open at once.")
    static void fiveOpenSigns() {
        faults("(((((h)))))", -1, "((((((h))))))", 5, "!!!!!h", -1, "!!!!!!h", 5, "!(!(!h))", -1, "!(!(!(h)))", 5,
            "(((((", 5, "((((((", 5, "!!!!!", 5, "!!!!!!", 5, "!!!!!(", 5, "(((((!", 5, "(((((!h", 5);
        faults("(((((h)))))+(((((n)))))", -1, "!!!!!h+!!!!!n", -1, "!!!!!h+!!!!!!n", 12, "(((((h)+(", 9, "(((((h)+!", 9,
            "(((((h))+((n", 12, "(((((h))+((n)", 13, "((((!h+!n", 9, "((((!h+!!n", 8, "!!!(h)+!!!!!n", -1);
        gives("(((((7)))))", 0, 0, 0, 7);
        gives("!!!!!0", 0, 0, 0, 1);
        gives("((((!0)))+1)", 0, 0, 0, 2);
    }

    @Sentence(of = "Terms 2", says = "Ints that wrap;")
    static void intsWrap() {
        gives("h+1<h", MAX, 0, 0, 1);
        gives("h-1>h", MIN, 0, 0, 1);
        gives("h+1", MAX, 0, 0, -99);
        gives("h-1", MIN, 0, 0, 99);
        gives("0-h=h", MIN, 0, 0, 1);
        gives("h*2", 1 << 30, 0, 0, -99);
        gives("h*h+7", 1 << 16, 0, 0, 7);
        gives("h*n", MIN, 0, -1, -99);
        gives("9999*9999*9999", 0, 0, 0, -99);
        gives("9999*9999*9999/9999/9999", 0, 0, 0, -10);
    }

    @Sentence(of = "Terms 2", says = "/ cut, % the rest that it leaves, both by 0 are 0;")
    static void quotientsAndRests() {
        int[][] due = {
            {7, 2, 3, 1}, {-7, 2, -3, -1}, {7, -2, -3, 1}, {-7, -2, 3, -1}, {1, 2, 0, 1}, {-1, 2, 0, -1}, {0, 5, 0, 0},
            {7, 0, 0, 0}, {0, 0, 0, 0}, {MIN, 0, 0, 0}, {MAX, 0, 0, 0}, {MIN, -1, -99, 0}, {MIN, 1, -99, 0},
            {MAX, MAX, 1, 0}, {MIN, MIN, 1, 0}, {5, MIN, 0, 5},
        };
        for (int[] row : due) {
            gives("h/n", row[0], 0, row[1], row[2]);
            gives("h%n", row[0], 0, row[1], row[3]);
        }
        gives("h/n=h", MIN, 0, -1, 1);
        gives("9+5/0", 0, 0, 0, 9);
        gives("9+5%0*3", 0, 0, 0, 9);
    }

    @Sentence(of = "Terms 2", says = "| & < = > ! are 1 or 0, what is not 0 being true;")
    static void whatIsNotZeroIsTrue() {
        for (int truth : new int[] {1, 2, -1, -7, 99, MIN, MAX}) {
            gives("h|n", truth, 0, 0, 1);
            gives("h|n", 0, 0, truth, 1);
            gives("h|n", truth, 0, truth, 1);
            gives("h&n", truth, 0, 0, 0);
            gives("h&n", 0, 0, truth, 0);
            gives("h&n", truth, 0, 2, 1);
            gives("!h", truth, 0, 0, 0);
            gives("!!h", truth, 0, 0, 1);
        }
        gives("h|n", 0, 0, 0, 0);
        gives("h&n", 0, 0, 0, 0);
        gives("!h", 0, 0, 0, 1);
        gives("h=n", 0, 0, 0, 1);
        gives("(h<n)+(h=n)*10+(h>n)*30", -1, 0, 0, 1);
    }

    @Sentence(of = "Terms 2", says = "all is worked out.")
    static void allIsWorkedOut() {
        gives("1|1/0", 0, 0, 0, 1);
        gives("1|1%0", 0, 0, 0, 1);
        gives("0&1/0", 0, 0, 0, 0);
        gives("0&(1|0)|3", 0, 0, 0, 1);
        faults("1|", 2, "1|1+", 4, "0&", 2, "0&x", 2);
    }

    @Sentence(of = "Terms 2", says = "FAULT: the place of the first byte with which no TEXT goes on;")
    static void faultsAtTheFirstAndAtTheLastByte() {
        faults("x", 0, ")h", 0, "hx", 1, "hh+x", 1, "h+x+y", 2);
        faults(FORTY_EIGHT_BYTES + "1x", 49);
        faults(FORTY_EIGHT_BYTES + "x1", 48);
        faults("x" + FORTY_EIGHT_BYTES + "1", 0);
    }

    @Sentence(of = "Terms 2", says = "how many there are, if it ends too early.")
    static void faultsBehindTheEnd() {
        faults("", 0, "h+", 2, "(", 1, "(h", 2, "!", 1, "h<", 2, "h|", 2, "h&", 2, "h*", 2);
        faults(FORTY_EIGHT_BYTES + "1+", 50);
        faults(FORTY_EIGHT_BYTES, 48);
        faults("(" + FORTY_EIGHT_BYTES + "1", 50);
    }

    // ---- Terms 2: USES

    /** What a use gives, its first NAME being all its TEXT. */
    private static void isHeld(int use, String name) {
        LiftCredit x = new LiftCredit();
        Lifts.text(x, use, name);
        int[] numbers = {0, 98, 99, 100, MAX, -98, -99, -100, MIN};
        int[] due = {0, 98, 99, 99, 99, -98, -99, -99, -99};
        for (int i = 0; i < numbers.length; i++) {
            Due.is("law(" + use + ", " + numbers[i] + ", ..)", x.law(use, numbers[i], 0, 0), due[i]);
        }
    }

    @Sentence(of = "Terms 2", says = "USES: 0 CREDIT, NAMES h, c, n; held within -99 to 99;")
    static void creditsTextIsHeld() {
        isHeld(0, "h");
        LiftCredit x = Lifts.saying(Lifts.with(0), 1);
        Lifts.text(x, 0, "100");
        Due.is("a rider's credit", x.ofRider(0, 7), 99);
        Lifts.text(x, 0, "0-100");
        Due.is("a rider's credit", x.ofRider(0, 7), -99);
    }

    @Sentence(of = "Terms 2", says = "without a TEXT h*2+n-c*4.")
    static void creditWithoutAText() {
        LiftCredit x = new LiftCredit();
        Due.is("nothing", x.law(0, 0, 0, 0), 0);
        Due.is("h 8", x.law(0, 8, 0, 0), 16);
        Due.is("c 8", x.law(0, 0, 8, 0), -32);
        Due.is("n 8", x.law(0, 0, 0, 8), 8);
        Due.is("held above", x.law(0, 50, 0, 0), 99);
        Due.is("held below", x.law(0, 0, 25, 0), -99);
        Due.is("wraps", x.law(0, 1 << 30, 0, 0), -99);
        Due.is("wraps to 0", x.law(0, 0, 1 << 30, 0), 0);
        Lifts.text(x, 0, "h*2+n-c*5+");
        Due.is("a faulty text is none", x.law(0, 0, 1, 0), -4);
    }

    @Sentence(of = "Terms 2", says = "1 CROWD, NAMES s the CREDITS of all in it together, k how many they are,")
    static void creditsAndNumberOfACrowd() {
        LiftCredit x = Lifts.saying(Lifts.with(49, 49, 49, 49, 49, 49), 3280, 3280, 3280, 3280, 3280, 3280);
        Lifts.text(x, 1, "(s=84)*3+k");
        Due.is("six of 14, not of 9", x.together(63), 9);
        Lifts.text(x, 1, "(s=14)*3+k");
        Due.is("one of 14", x.together(32), 4);
        Lifts.hearing(x, 6560);
        Lifts.text(x, 1, "(0-s=46)*3+k");
        Due.is("two of -23, not of 0", x.together(33), 5);
        LiftCredit y = Lifts.saying(Lifts.with(39, 0), 0, 1);
        Lifts.text(y, 1, "s");
        Due.is("who says nothing has a credit, too", y.together(3), 4);
    }

    @Sentence(of = "Terms 2", says = "d of how many FACTS two of them say what is the other way round (each FACT "
            + "once);")
    static void disputedFacts() {
        LiftCredit x = Lifts.with(0, 0, 0, 0, 0, 0);
        Lifts.text(x, 1, "d");
        Lifts.saying(x, 3280, 6560);
        Due.is("all", x.together(3), 8);
        Due.is("one alone differs with none", x.together(1), 0);
        Due.is("those outside don't count", x.together(1 + 4), 0);
        Lifts.saying(x, 3280, 6560, 3280, 6560, 3280, 6560);
        Due.is("each once, whoever says it", x.together(63), 8);
        Lifts.saying(x, 1, 1, 1, 1, 1, 2);
        Due.is("fact 0 by one of six", x.together(63), 1);
        Lifts.saying(x, 2187, 0, 0, 0, 0, 4374);
        Due.is("fact 7", x.together(63), 1);
        Lifts.saying(x, 3280, 3280, 0, 0, 3280, 3280);
        Due.is("nobody differs", x.together(63), 0);
        Lifts.saying(x, 40, 6561 - 81, 0, 0, 0, 0);
        Due.is("other facts", x.together(63), 0);
    }

    @Sentence(of = "Terms 2", says = "held within -99 to 99; without a TEXT s/k-d*2.")
    static void aCrowdsTextIsHeld() {
        isHeld(1, "s");
        LiftCredit x = new LiftCredit();
        Due.is("without a text", x.law(1, 17, 3, 2), 1);
        Due.is("cut", x.law(1, -17, 3, 0), -5);
        Due.is("held above", x.law(1, 100, 1, 0), 99);
        Due.is("held below", x.law(1, 0, 1, 50), -99);
        Due.is("wraps", x.law(1, 0, 1, 1 << 30), -99);
        Due.is("wraps to 0", x.law(1, 0, 1, MIN), 0);
        Due.is("MIN / -1 wraps", x.law(1, MIN, -1, 0), -99);
    }

    // ---- Promises 12 to 14

    @Sentence(of = "Promise 12", says = "The n lowest bytes (1 .. 8) of a word, the lowest first, come to THE TAPE: "
            + "how many there are.")
    static void feedOfOneToEightBytes() {
        LiftCredit x = new LiftCredit();
        Due.is("the lowest alone", x.feed(-256L | 'h', 1), 1);
        Due.is("text of it", x.text(0), 1);
        long word = 0;
        for (int place = 7; place >= 0; place--) {
            word = word << 8 | "9-8+h-nc".charAt(place);
        }
        Due.is("seven", x.feed(word, 7), 7);
        Due.is("text of it", x.text(0), 1);
        Due.is("the lowest first", x.law(0, 50, 0, 1), 50);
        Due.is("eight", x.feed(word, 8), 8);
        Due.is("the highest last", x.text(0), -17);
        for (int n = 1; n <= 8; n++) {
            Due.is(n + " bytes", x.feed(Long.MIN_VALUE, n), n * (n + 1) / 2);
        }
        Due.is("44 bytes", x.feed(-1, 8), 44);
        Due.is("to the very end", x.feed(Long.MAX_VALUE, 6), 50);
        Due.is("50 bytes", x.count(7), 50);
    }

    @Sentence(of = "Promise 12", says = "BEYOND.")
    static void feedBeyond() {
        Twins.refused(Lifts::furnished, Due.BEYOND,
            x -> x.feed('1', 0), x -> x.feed('1', 9), x -> x.feed('1', -1), x -> x.feed('1', MIN), x -> x.feed('1', MAX));
        Twins.refused(Lifts::withFullTape, Due.BEYOND, x -> x.feed('1', 0), x -> x.feed('1', 9));
    }

    @Sentence(of = "Promise 12", says = "FULL.")
    static void feedFull() {
        Due.is("50 bytes", Lifts.withFullTape().count(7), 50);
        Twins.refused(Lifts::withFullTape, Due.FULL, x -> x.feed('1', 1), x -> x.feed(0, 8));
        Twins.refused(() -> {
            LiftCredit x = Lifts.furnished();
            Lifts.feed(x, "1+1+1+1+1+1+1+1+1+1+1+1+1+1+1+1+1+1+1+1+");
            return x;
        }, Due.FULL, x -> x.feed('1', 7), x -> x.feed(-1, 8));
    }

    @Sentence(of = "Promise 13", says = "THE TAPE, which is empty then, is the TEXT of a USE (0, 1), in place of one "
            + "ahead: 1.")
    static void textOfEachUse() {
        LiftCredit x = Lifts.saying(Lifts.with(0), 1);
        for (int use = 0; use <= 1; use++) {
            Due.is("the first", Lifts.text(x, use, "7"), 1);
            Due.is("empty then", x.count(7), 0);
            Due.is("it is the text", x.law(use, 1, 1, 1), 7);
            Due.is("one in its place", Lifts.text(x, use, "8"), 1);
            Due.is("it is the text", x.law(use, 1, 1, 1), 8);
            Due.is("a floor by it", use == 0 ? x.ofRider(0, 8) : x.together(1), 8);
        }
        Due.is("the other's stays", Lifts.text(x, 1, "9"), 1);
        Due.is("the other's stays", x.law(0, 1, 1, 1), 8);
        Due.is("a shorter one", Lifts.text(x, 0, "h+n+c+h+n+c"), 1);
        Due.is("a shorter one", Lifts.text(x, 0, "h"), 1);
        Due.is("nothing of the longer one stays", x.law(0, 5, 6, 7), 5);
    }

    @Sentence(of = "Promise 13", says = "BEYOND (THE TAPE stays).")
    static void textBeyond() {
        Twins.refused(Lifts::furnished, Due.BEYOND,
            x -> x.text(-1), x -> x.text(2), x -> x.text(MIN), x -> x.text(MAX));
        LiftCredit x = Lifts.furnished();
        x.text(2);
        Due.is("the tape stays", x.count(7), 4);
    }

    @Sentence(of = "Promise 13", says = "-10 less the FAULT (no ERROR; the one ahead stays; THE TAPE is empty, too).")
    static void textWithAFault() {
        for (int use = 0; use <= 1; use++) {
            LiftCredit x = Lifts.furnished();
            Due.is("text(" + use + ") of h*7+", x.text(use), use == 0 ? -14 : -10);
            Twins.alike("but for the tape", x, Lifts.furnishedButTheTape());
            LiftCredit y = Lifts.furnishedButTheTape();
            Due.is("text(" + use + ") of an empty tape", y.text(use), -10);
            Twins.alike("as before", y, Lifts.furnishedButTheTape());
            Due.is("the greatest fault", Lifts.text(new LiftCredit(), use, FORTY_EIGHT_BYTES + "1+"), -60);
        }
    }

    @Sentence(of = "Promise 14", says = "What a USE gives with its NAMES in order as a, b, c (k 0: s/k is 0).")
    static void lawAtItsEdges() {
        LiftCredit x = new LiftCredit();
        Due.is("k 0", x.law(1, 17, 0, 2), -4);
        Due.is("k 0, s MIN", x.law(1, MIN, 0, 0), 0);
        Due.is("k 0, all 0", x.law(1, 0, 0, 0), 0);
        Lifts.text(x, 1, "s/k+7");
        Due.is("by a text, too", x.law(1, 17, 0, 2), 7);
        Lifts.text(x, 0, "(h<0)+(c<0)*10+(n<0)*40");
        int[][] due = {{MIN, MAX, MAX, 1}, {MAX, MIN, MAX, 10}, {MAX, MAX, MIN, 40}, {MIN, MIN, MIN, 51}};
        for (int[] row : due) {
            Due.is("h, c, n in order", x.law(0, row[0], row[1], row[2]), row[3]);
        }
        Lifts.text(x, 1, "(s<0)+(k<0)*10+(d<0)*40");
        for (int[] row : due) {
            Due.is("s, k, d in order", x.law(1, row[0], row[1], row[2]), row[3]);
        }
        Twins.onlyThought(Lifts::furnished, y -> y.law(0, 1, 2, 3), y -> y.law(1, 1, 0, 3), y -> y.law(1, MIN, -1, MAX));
    }

    @Sentence(of = "Promise 14", says = "BEYOND.")
    static void lawBeyond() {
        Twins.refused(Lifts::furnished, Due.BEYOND,
            x -> x.law(-1, 0, 0, 0), x -> x.law(2, 0, 0, 0), x -> x.law(MIN, 0, 0, 0), x -> x.law(MAX, 0, 0, 0));
    }
}
