/**
 * For each promise the answers that the document asks for, worked out by hand: ordinary inputs,
 * the edges that it names, wrong inputs and that those change nothing.
 */
final class PromisesTest {
    private static final int MIN = Integer.MIN_VALUE;
    private static final int MAX = Integer.MAX_VALUE;

    private PromisesTest() {
    }

    public static void main(String[] arguments) {
        newObject();
        hear();
        heard();
        world();
        trust();
        rider();
        ofRider();
        creditOfKinds();
        floorIsHeld();
        story();
        say();
        become();
        as();
        feed();
        text();
        faults();
        openSigns();
        lawsWithoutText();
        lawsByText();
        lawsAreHeld();
        ride();
        rideGivesUp();
        days();
        daysAtTheirEnd();
        ridesAtTheirEnd();
        rumours();
        together();
        bestWith();
        shortest();
        truest();
        out();
        when();
        still();
        then();
        believed();
        word();
        seed();
        voices();
        trace();
        sheet();
        put();
        move();
        stories();
        judge();
        imageAndRestore();
        imageKeepsNoMore();
        tellAndCheck();
        count();
        told();
        anyNumberIsNoError();
        Due.verdict();
    }

    // ---- facts, riders

    private static void newObject() {
        LiftCredit x = new LiftCredit();
        for (int k = 1; k <= 5; k++) {
            Due.is("new: told(" + k + ")", x.told(k), 0);
        }
        int[] first = {0, 0, 0, 0, 0, 3, 0, 0, 0, 0, 1};
        for (int what = 0; what <= 10; what++) {
            Due.is("new: count(" + what + ")", x.count(what), first[what]);
        }
        Due.is("new: heard", x.heard(), 0);
        for (int sheet = 0; sheet <= 3; sheet++) {
            Due.is("new: judge of a missing sheet", x.judge(sheet), Due.NONE);
        }
        Due.is("new: restore", x.restore(), Due.NONE);
        Due.is("new: trace(0)", x.trace(0), Due.NONE);
        Due.is("new: ofRider(0, 0)", x.ofRider(0, 0), Due.BEYOND);
        Due.is("new: law of credit", x.law(0, 5, 1, 3), 9);
        Due.is("new: law of a crowd", x.law(1, 20, 2, 1), 8);
        Due.is("new: check", x.check(), 0);
        Due.is("new: days with no riders", x.days(60), 0);
        Due.is("new: rides of no riders", x.count(2), 0);
        Due.is("another new object", new LiftCredit().count(1), 0);
    }

    private static void hear() {
        LiftCredit x = new LiftCredit();
        Due.is("hear first", x.hear(0, 1), 0);
        Due.is("hear what was so", x.hear(0, 2), 1);
        Due.is("hear what was not so", x.hear(0, 0), 2);
        Due.is("hear the last fact", x.hear(7, 2), 0);
        Due.is("hear it again", x.hear(7, 2), 2);
        Due.is("hear(8, 0)", x.hear(8, 0), Due.BEYOND);
        Due.is("hear(-1, 0)", x.hear(-1, 0), Due.BEYOND);
        Due.is("hear(0, 3)", x.hear(0, 3), Due.BEYOND);
        Due.is("hear(0, -1)", x.hear(0, -1), Due.BEYOND);
        Due.is("hear(MAX, MIN)", x.hear(MAX, MIN), Due.BEYOND);
        Due.is("heard as before", x.heard(), 4374);
    }

    private static void heard() {
        LiftCredit x = new LiftCredit();
        int worth = 1;
        for (int fact = 0; fact < 8; fact++) {
            x.hear(fact, 1);
            Due.is("heard fact " + fact + " so", x.heard(), worth);
            x.hear(fact, 2);
            Due.is("heard fact " + fact + " not so", x.heard(), 2 * worth);
            x.hear(fact, 0);
            worth *= 3;
        }
        for (int fact = 0; fact < 8; fact++) {
            x.hear(fact, 2);
        }
        Due.is("heard all not so", x.heard(), 6560);
    }

    private static void world() {
        LiftCredit x = new LiftCredit();
        Due.is("world(255)", x.world(255), 0);
        Due.is("world(128)", x.world(128), 255);
        Due.is("world(256)", x.world(256), Due.BEYOND);
        Due.is("world(-1)", x.world(-1), Due.BEYOND);
        Due.is("world(0)", x.world(0), 128);
    }

    private static void trust() {
        LiftCredit x = new LiftCredit();
        Due.is("trust(0)", x.trust(0), 3);
        Due.is("trust(9)", x.trust(9), 0);
        Due.is("trust(10)", x.trust(10), Due.BEYOND);
        Due.is("trust(-1)", x.trust(-1), Due.BEYOND);
        Due.is("trust(3)", x.trust(3), 9);
    }

    private static void rider() {
        LiftCredit x = new LiftCredit();
        Due.is("rider(-1)", x.rider(-1), Due.BEYOND);
        Due.is("rider(70)", x.rider(70), Due.BEYOND);
        Due.is("no rider yet", x.count(0), 0);
        Due.is("rider(0)", x.rider(0), 0);
        Due.is("rider(69)", x.rider(69), 1);
        for (int number = 2; number < 6; number++) {
            Due.is("rider " + number, x.rider(10 * number), number);
        }
        Due.is("a seventh rider", x.rider(0), Due.FULL);
        Due.is("a seventh rider of no kind", x.rider(70), Due.BEYOND);
        Due.is("six riders", x.count(0), 6);
        Due.is("kind of rider 1", x.ofRider(1, 0), 6);
        Due.is("m of rider 1", x.ofRider(1, 1), 9);
        Due.is("kind of rider 5", x.ofRider(5, 0), 5);
        Due.is("m of rider 5", x.ofRider(5, 1), 0);
        Due.is("story of rider 5", x.ofRider(5, 2), 0);
    }

    private static void ofRider() {
        LiftCredit x = Lifts.with(58, 27);
        x.story(1, 1 + 2 * 3 + 9 + 2 * 27 + 2187);
        x.hear(0, 1);
        x.hear(1, 2);
        x.hear(2, 2);
        x.hear(4, 1);
        int[] due = {2, 7, 2257, 5, 2, 1, 2, 6, 6};
        for (int what = 0; what < due.length; what++) {
            Due.is("ofRider(1, " + what + ")", x.ofRider(1, what), due[what]);
        }
        x.world(1 + 4 + 128);
        Due.is("all so in the world", x.ofRider(1, 9), 1);
        x.world(1 + 4);
        Due.is("a fact said so that isn't", x.ofRider(1, 9), 0);
        x.world(1 + 2 + 4 + 128);
        Due.is("a fact said not so that is", x.ofRider(1, 9), 0);
        x.world(1 + 4 + 16 + 128);
        Due.is("a fact of which nothing is said", x.ofRider(1, 9), 1);
        Due.is("nothing said is so", x.ofRider(0, 9), 1);
        Due.is("floor with nothing said", x.ofRider(0, 8), -1);
        Due.is("credit with nothing said", x.ofRider(0, 7), 0);
        Due.is("ofRider(2, 0)", x.ofRider(2, 0), Due.BEYOND);
        Due.is("ofRider(-1, 0)", x.ofRider(-1, 0), Due.BEYOND);
        Due.is("ofRider(0, 10)", x.ofRider(0, 10), Due.BEYOND);
        Due.is("ofRider(0, -1)", x.ofRider(0, -1), Due.BEYOND);
    }

    /** The CREDIT of each KIND, m 4, for "facts 0, 1, 2 are so", by what was HEARD. */
    private static void creditOfKinds() {
        int[][] due = {
            {0, 3, 3, 3, 6, 7, 6, 3},
            {13, 6, 5, 6, 9, 9, 6, 6},
            {26, -12, -12, -4, -12, -8, -4, -15},
            {7, -1, -1, 3, -1, 3, 4, -4},
            {8, -7, -7, -3, -7, -3, -2, -10},
        };
        for (int[] row : due) {
            for (int kind = 0; kind <= 6; kind++) {
                LiftCredit x = Lifts.with(10 * kind + 4);
                x.story(0, 13);
                Lifts.hearing(x, row[0]);
                Due.is("credit of kind " + kind + ", heard " + row[0], x.ofRider(0, 7), row[kind + 1]);
                int floor = Math.max(0, Math.min(9, row[kind + 1]));
                Due.is("floor of kind " + kind + ", heard " + row[0], x.ofRider(0, 8), floor);
            }
        }
    }

    private static void floorIsHeld() {
        LiftCredit x = Lifts.with(49, 30);
        x.story(0, 3280);
        Due.is("credit of 14", x.ofRider(0, 7), 14);
        Due.is("floor of 14", x.ofRider(0, 8), 9);
        Due.is("credit of a widow who says nothing", x.ofRider(1, 7), 3);
        Due.is("her floor", x.ofRider(1, 8), -1);
        x.hear(0, 2);
        x.hear(1, 2);
        x.hear(2, 2);
        x.hear(3, 2);
        x.hear(4, 2);
        Due.is("credit of -8", x.ofRider(0, 7), -8);
        Due.is("floor of -8", x.ofRider(0, 8), 0);
    }

    private static void story() {
        LiftCredit x = Lifts.with(0, 0);
        Due.is("story(0, 6560)", x.story(0, 6560), 0);
        Due.is("story(1, 5)", x.story(1, 5), 0);
        Due.is("story(0, 0)", x.story(0, 0), 6560);
        Due.is("story(1, 6561)", x.story(1, 6561), Due.BEYOND);
        Due.is("story(1, -1)", x.story(1, -1), Due.BEYOND);
        Due.is("story(2, 0)", x.story(2, 0), Due.BEYOND);
        Due.is("story(-1, 0)", x.story(-1, 0), Due.BEYOND);
        Due.is("story as before", x.story(1, 1), 5);
    }

    private static void say() {
        LiftCredit x = Lifts.with(0, 0);
        Due.is("say so", x.say(1, 0, 1), 0);
        Due.is("say not so", x.say(1, 7, 2), 0);
        Due.is("what was said", x.ofRider(1, 2), 4375);
        Due.is("say the other way", x.say(1, 0, 2), 1);
        Due.is("say nothing", x.say(1, 7, 0), 2);
        Due.is("what is said", x.ofRider(1, 2), 2);
        Due.is("say(1, 8, 0)", x.say(1, 8, 0), Due.BEYOND);
        Due.is("say(1, -1, 0)", x.say(1, -1, 0), Due.BEYOND);
        Due.is("say(1, 0, 3)", x.say(1, 0, 3), Due.BEYOND);
        Due.is("say(1, 0, -1)", x.say(1, 0, -1), Due.BEYOND);
        Due.is("say(2, 0, 0)", x.say(2, 0, 0), Due.BEYOND);
        Due.is("say(-1, 0, 0)", x.say(-1, 0, 0), Due.BEYOND);
        Due.is("said as before", x.ofRider(1, 2), 2);
        Due.is("another says nothing", x.ofRider(0, 2), 0);
    }

    private static void become() {
        LiftCredit x = Lifts.with(14, 0);
        x.story(0, 100);
        Due.is("become(0, 69)", x.become(0, 69), 1);
        Due.is("kind then", x.ofRider(0, 0), 6);
        Due.is("m then", x.ofRider(0, 1), 9);
        Due.is("story stays", x.ofRider(0, 2), 100);
        Due.is("become(0, 70)", x.become(0, 70), Due.BEYOND);
        Due.is("become(0, -1)", x.become(0, -1), Due.BEYOND);
        Due.is("become(2, 0)", x.become(2, 0), Due.BEYOND);
        Due.is("become(-1, 0)", x.become(-1, 0), Due.BEYOND);
        Due.is("become(0, 0)", x.become(0, 0), 6);
        Due.is("become(0, 5)", x.become(0, 5), 0);
        Due.is("the number in voices stays", x.voice(1, 0, 10), 11);
    }

    private static void as() {
        int[][] kindsOf = {{0}, {0, 1}, {0, 2}, {0, 3}, {0, 1, 4}, {0, 2, 5}, {0, 3, 6}};
        for (int kind = 0; kind <= 6; kind++) {
            LiftCredit x = Lifts.with(10 * kind + 8);
            for (int asked = 0; asked <= 6; asked++) {
                boolean isOne = false;
                for (int of : kindsOf[kind]) {
                    isOne |= of == asked;
                }
                Due.is("kind " + kind + " as " + asked, x.as(0, asked), isOne ? 8 : Due.KIND);
            }
        }
        LiftCredit x = Lifts.with(0);
        Due.is("as(0, 7)", x.as(0, 7), Due.BEYOND);
        Due.is("as(0, -1)", x.as(0, -1), Due.BEYOND);
        Due.is("as(1, 0)", x.as(1, 0), Due.BEYOND);
        Due.is("as(-1, 0)", x.as(-1, 0), Due.BEYOND);
    }

    // ---- texts

    private static void feed() {
        LiftCredit x = new LiftCredit();
        Due.is("feed(h, 0)", x.feed('h', 0), Due.BEYOND);
        Due.is("feed(h, 9)", x.feed('h', 9), Due.BEYOND);
        Due.is("feed(h, -1)", x.feed('h', -1), Due.BEYOND);
        Due.is("feed(h, 1)", x.feed('h', 1), 1);
        Due.is("the lowest byte first", x.feed('-' | 'n' << 8 | 'x' << 16, 2), 3);
        Due.is("the text of it", x.text(0), 1);
        Due.is("the tape is empty", x.count(7), 0);
        Due.is("what it gives", x.law(0, 7, 0, 2), 5);
        for (int i = 1; i <= 6; i++) {
            Due.is("eight bytes more", x.feed(0, 8), 8 * i);
        }
        Due.is("beyond the tape's end", x.feed(0, 3), Due.FULL);
        Due.is("beyond it by far", x.feed(0, 8), Due.FULL);
        Due.is("BEYOND ahead of FULL", x.feed(0, 9), Due.BEYOND);
        Due.is("48 bytes", x.count(7), 48);
        Due.is("to the tape's end", x.feed(0, 2), 50);
        Due.is("one more", x.feed(0, 1), Due.FULL);
        LiftCredit y = new LiftCredit();
        y.feed(0x3131313131313131L, 8);
        Due.is("eight digits", y.text(0), -14);
        y.feed(0xB1L, 1);
        Due.is("a byte above 127", y.text(0), -10);
    }

    private static void text() {
        LiftCredit x = new LiftCredit();
        Due.is("an empty tape", x.text(0), -10);
        Lifts.feed(x, "h");
        Due.is("text(2)", x.text(2), Due.BEYOND);
        Due.is("text(-1)", x.text(-1), Due.BEYOND);
        Due.is("the tape stays", x.count(7), 1);
        Due.is("text(0)", x.text(0), 1);
        Due.is("the tape is empty", x.count(7), 0);
        Due.is("the text of credit", x.law(0, 42, 1, 1), 42);
        Due.is("not of the crowd", x.law(1, 42, 1, 1), 40);
        Due.is("a faulty text", Lifts.text(x, 0, "c+"), -12);
        Due.is("the tape is empty, too", x.count(7), 0);
        Due.is("the one ahead stays", x.law(0, 42, 1, 1), 42);
        Due.is("a new text", Lifts.text(x, 0, "c"), 1);
        Due.is("in place of one ahead", x.law(0, 42, 7, 1), 7);
        Due.is("a text of the crowd", Lifts.text(x, 1, "k"), 1);
        Due.is("of credit as before", x.law(0, 42, 7, 1), 7);
        Due.is("of the crowd", x.law(1, 42, 6, 1), 6);
        Due.is("names of the other use", Lifts.text(x, 0, "s"), -10);
        Due.is("names of the other use", Lifts.text(x, 1, "n"), -10);
        LiftCredit y = Lifts.with(0);
        y.story(0, 1);
        Lifts.text(y, 0, "7");
        Due.is("riders are credited by it", y.ofRider(0, 8), 7);
        Lifts.text(y, 0, "6-n");
        Due.is("and by the next", y.ofRider(0, 8), 5);
    }

    private static void faults() {
        Object[][] due = {
            {"h", -1}, {"12", -1}, {"0000", -1}, {"9999", -1}, {"12345", 4}, {"00001", 4}, {"h5", 1},
            {"5h", 1}, {"hh", 1}, {"+", 0}, {"-h", 0}, {"h+", 2}, {"h++h", 2}, {"h+*", 2}, {"h-n*c/2%3", -1},
            {" h", 0}, {"h ", 1}, {"h + n", 1}, {"(h", 2}, {"(h)", -1}, {"(h))", 3}, {")", 0}, {"()", 1},
            {"(h)(n)", 3}, {"(h)n", 3}, {"(h)5", 3}, {"h<n", -1}, {"h<n<c", 3}, {"h<n=c", 3}, {"h>n&n>c", -1},
            {"h=n|n=c", -1}, {"(h<n)<c", -1}, {"h<(n<c)", -1}, {"h<n+c<2", 5}, {"(h<n<c)", 4}, {"h<", 2},
            {"h<<n", 2}, {"h|", 2}, {"h||n", 2}, {"h&", 2}, {"h&&n", 2}, {"h|n&c", -1}, {"!h", -1}, {"!", 1},
            {"h!", 1}, {"h!n", 1}, {"!h!n", 2}, {"h*!n", -1}, {"H", 0}, {"x", 0}, {"h+x", 2}, {"h==n", 2},
            {"h/0", -1}, {"1234+56789", 9}, {"1234(", 4}, {"h+(n-(c", 7}, {"h+(n-(c)", 8}, {"h+(n-(c))", -1},
            {"h^n", 1}, {"~h", 0}, {"h,n", 1}, {"1.5", 1}, {"(h|n&c=1+2*3)", -1},
        };
        for (Object[] row : due) {
            LiftCredit x = new LiftCredit();
            int fault = (Integer) row[1];
            Due.is("text \"" + row[0] + "\"", Lifts.text(x, 0, (String) row[0]), fault < 0 ? 1 : -10 - fault);
        }
        String ones = "1+1+1+1+1+1+1+1+1+1+1+1+1+1+1+1+1+1+1+1+1+1+1+1+";
        LiftCredit x = new LiftCredit();
        Due.is("a text of 50 bytes", Lifts.text(x, 0, ones + "11"), 1);
        Due.is("what it gives", x.law(0, 0, 0, 0), 35);
        Due.is("50 bytes that end too early", Lifts.text(x, 0, ones + "1+"), -60);
    }

    private static void openSigns() {
        Object[][] due = {
            {"(((((h)))))", -1}, {"((((((h))))))", 5}, {"!!!!!h", -1}, {"!!!!!!h", 5}, {"!(!(!h))", -1},
            {"!(!(!(h)))", 5}, {"(!!(!h))", -1}, {"(!!(!!h))", 5}, {"!!!!!h+!!!!!n", -1},
            {"(((((h)))))+(((((n)))))", -1}, {"!!!(h)+!!!!!n", -1}, {"((!!h+!!!n))", -1}, {"((!!h+!!!!n))", 9},
            {"(((((", 5}, {"((((((", 5}, {"!!!!!", 5}, {"!!!!!!", 5}, {"(((((h", 6}, {"((((h)+(!n", 10},
            {"(((((h)+!n", 10}, {"(((((h)+(", 9}, {"(((((h)+!(", 9}, {"(((((h+!n", 7}, {"((((!h)+!n", 10},
            {"!!!!!(", 5}, {"(!(!(", 5}, {"(!(!((", 5},
        };
        for (Object[] row : due) {
            LiftCredit x = new LiftCredit();
            int fault = (Integer) row[1];
            Due.is("text \"" + row[0] + "\"", Lifts.text(x, 0, (String) row[0]), fault < 0 ? 1 : -10 - fault);
        }
    }

    private static void lawsWithoutText() {
        LiftCredit x = new LiftCredit();
        Due.is("h*2+n-c*4", x.law(0, 3, 2, 5), 3);
        Due.is("held above", x.law(0, 50, 0, 0), 99);
        Due.is("held below", x.law(0, 0, 25, 0), -99);
        Due.is("wraps", x.law(0, 1 << 30, 0, 0), -99);
        Due.is("s/k-d*2", x.law(1, 17, 3, 2), 1);
        Due.is("s/k is cut", x.law(1, -17, 3, 0), -5);
        Due.is("k 0", x.law(1, 17, 0, 2), -4);
        Due.is("MIN / -1", x.law(1, MIN, -1, 0), -99);
        Due.is("law(2, ..)", x.law(2, 0, 0, 0), Due.BEYOND);
        Due.is("law(-1, ..)", x.law(-1, 0, 0, 0), Due.BEYOND);
    }

    private static void lawsByText() {
        Object[][] due = {
            {"h-n-c", 7, 3, 2, 2}, {"h-n*c", 20, 3, 4, 8}, {"h/n*c", 20, 3, 3, 18}, {"h*n/c", 20, 4, 3, 15},
            {"h%n*c", 17, 2, 5, 4}, {"h%n%c", 17, 3, 10, 1}, {"h/n", -7, 0, 2, -3}, {"h%n", -7, 0, 2, -1},
            {"h%n", 7, 0, -2, 1}, {"h/n", 5, 0, 0, 0}, {"h%n", 5, 0, 0, 0}, {"h/n%n", MIN, 0, -1, 0},
            {"h%n", MIN, 0, -1, 0}, {"h|n", 0, 0, 0, 0}, {"h|n", 5, 0, 0, 1}, {"h|n", 0, 0, -2, 1},
            {"h&n", 5, 0, 0, 0}, {"h&n", 0, 0, 5, 0}, {"h&n", 4, 0, 2, 1}, {"h|n&c", 1, 0, 0, 1},
            {"(h|n)&c", 1, 0, 0, 0}, {"h&n|c", 0, 9, 0, 1}, {"h<n", 1, 0, 2, 1}, {"h<n", 2, 0, 2, 0},
            {"h=n", 2, 0, 2, 1}, {"h=n", 2, 0, 3, 0}, {"h>n", 3, 0, 2, 1}, {"h>n", 2, 0, 2, 0},
            {"h<n", -1, 0, 1, 1}, {"h+1<n*2", 2, 0, 2, 1}, {"h<n&n<c", 1, 3, 2, 1}, {"h<n|c", 9, 4, 2, 1},
            {"!h", 0, 0, 0, 1}, {"!h", -3, 0, 0, 0}, {"!!h", -3, 0, 0, 1}, {"!h+5", 0, 0, 0, 6},
            {"!(h+5)", 0, 0, 0, 0}, {"3*!h*2", 0, 0, 0, 6}, {"(h+n)*c", 2, 5, 3, 25}, {"0042+h", 1, 0, 0, 43},
            {"h*h*h*0+h*h=h", 65536, 0, 0, 0}, {"h*h", 65536, 0, 0, 0}, {"h+1<h", MAX, 0, 0, 1},
            {"h-(n-c)", 9, 2, 5, 6}, {"h/(n-n)+4", 9, 2, 5, 4}, {"9999/101", 0, 0, 0, 99}, {"c", 1, 2, 3, 2},
            {"n", 1, 2, 3, 3}, {"h=n=", 0, 0, 0, MIN}, {"2<1|1>2|3=3", 0, 0, 0, 1}, {"1&2&0", 0, 0, 0, 0},
        };
        for (Object[] row : due) {
            LiftCredit x = new LiftCredit();
            int answer = Lifts.text(x, 0, (String) row[0]);
            int want = (Integer) row[4];
            if (want == MIN) {
                Due.is("text \"" + row[0] + "\"", answer, -13);
                continue;
            }
            int got = x.law(0, (Integer) row[1], (Integer) row[2], (Integer) row[3]);
            Due.is("\"" + row[0] + "\" of " + row[1] + ", " + row[2] + ", " + row[3], got, want);
        }
        LiftCredit x = new LiftCredit();
        Due.is("a crowd's text", Lifts.text(x, 1, "s*9-k*3+d"), 1);
        Due.is("its names in order", x.law(1, 4, 2, 1), 31);
    }

    private static void lawsAreHeld() {
        LiftCredit x = new LiftCredit();
        Lifts.text(x, 0, "h");
        Lifts.text(x, 1, "s");
        for (int use = 0; use <= 1; use++) {
            Due.is("99", x.law(use, 99, 0, 0), 99);
            Due.is("100", x.law(use, 100, 0, 0), 99);
            Due.is("MAX", x.law(use, MAX, 0, 0), 99);
            Due.is("-99", x.law(use, -99, 0, 0), -99);
            Due.is("-100", x.law(use, -100, 0, 0), -99);
            Due.is("MIN", x.law(use, MIN, 0, 0), -99);
        }
        LiftCredit y = Lifts.with(0, 49, 3);
        y.story(0, 1);
        y.story(1, 1);
        Lifts.text(y, 0, "9999");
        Due.is("held ahead of what a kind makes of it", y.ofRider(0, 7), 99);
        Due.is("a clerk's 5 at most and m", y.ofRider(1, 7), 14);
        Lifts.text(y, 0, "0-9999");
        Due.is("held ahead of what a kind makes of it", y.ofRider(1, 7), -90);
    }

    // ---- rides

    private static void ride() {
        LiftCredit x = Lifts.with(0, 0, 0);
        x.story(0, 13);
        x.story(1, 2 * 27);
        Due.is("the cellar", x.ride(2), -1);
        Due.is("below trust", x.ride(1), 1);
        Due.is("nothing heard", x.heard(), 0);
        Due.is("trusted", x.ride(0), 3);
        Due.is("all is heard", x.heard(), 13);
        Due.is("as high as is credited now", x.ride(0), 6);
        Due.is("three rides and one", x.count(2), 4);
        x.trust(1);
        Due.is("trust itself is enough", x.ride(1), 1);
        Due.is("heard then", x.heard(), 67);
        x.trust(0);
        Due.is("the cellar is below all trust", x.ride(2), -1);
        Due.is("ride(3)", x.ride(3), Due.BEYOND);
        Due.is("ride(-1)", x.ride(-1), Due.BEYOND);
        Due.is("no ride more", x.count(2), 6);
        Due.is("no day", x.count(1), 0);
    }

    /** An INSPECTOR whose word on FACT 0 is the other way round, with a CREDIT of 6. */
    private static void rideGivesUp() {
        int[][] due = {{3, 3}, {2, 3}, {0, 3}, {4, 5}, {6, 5}, {7, 2}};
        for (int[] row : due) {
            LiftCredit x = Lifts.with(49);
            x.story(0, 4);
            x.hear(0, 2);
            x.trust(row[0]);
            Due.is("floor", x.ride(0), 6);
            Due.is("heard, trust " + row[0], x.heard(), row[1]);
        }
        LiftCredit x = Lifts.with(49);
        x.story(0, 4);
        x.hear(0, 2);
        x.ride(0);
        Due.is("a ride more", x.ride(0), 9);
        Due.is("what was given up is heard from now on", x.heard(), 4);
        LiftCredit y = Lifts.with(0);
        y.story(0, 1);
        y.hear(0, 2);
        y.trust(0);
        Due.is("floor 0, trust 0", y.ride(0), 0);
        Due.is("is twice trust", y.heard(), 0);
    }

    private static void days() {
        LiftCredit x = Lifts.with(0, 0);
        x.trust(1);
        x.story(0, 9);
        x.story(1, 18 + 1);
        Due.is("the first first", x.days(1), 9);
        Due.is("day", x.count(1), 1);
        Due.is("rides", x.count(2), 2);
        Due.is("days(0)", x.days(0), Due.BEYOND);
        Due.is("days(61)", x.days(61), Due.BEYOND);
        Due.is("days(-1)", x.days(-1), Due.BEYOND);
        Due.is("day as before", x.count(1), 1);
        Due.is("days(60)", x.days(60), 9);
        Due.is("day 61", x.count(1), 61);
        Due.is("rides 122", x.count(2), 122);
        LiftCredit y = Lifts.with(0, 0);
        y.trust(1);
        y.story(0, 18 + 1);
        y.story(1, 9);
        Due.is("the other order", y.days(1), 19);
    }

    private static void daysAtTheirEnd() {
        LiftCredit x = Lifts.with(0);
        for (int i = 0; i < 166; i++) {
            x.days(60);
        }
        Due.is("day 9960", x.count(1), 9960);
        Due.is("days(40)", x.days(40), Due.STATE);
        Due.is("rumours(40)", x.rumours(40), Due.STATE);
        Due.is("rumours(41)", x.rumours(41), Due.BEYOND);
        Due.is("days(61)", x.days(61), Due.BEYOND);
        Due.is("z as before", x.count(10), 1);
        Due.is("day as before", x.count(1), 9960);
        Due.is("days(38)", x.days(38), 0);
        Due.is("rumours(2)", x.rumours(2), Due.STATE);
        Due.is("rumours(1)", x.rumours(1), 1458);
        Due.is("day 9999", x.count(1), 9999);
        Due.is("days(1)", x.days(1), Due.STATE);
        Due.is("rumours(1)", x.rumours(1), Due.STATE);
        x.trust(1);
        x.story(0, 1);
        Due.is("thought goes beyond", x.then(60), 1459);
        Due.is("thought goes beyond", x.when(0, 2), 1);
        Due.is("thought goes beyond", x.still(), 1);
        x.tell(1459);
        Due.is("thought goes beyond", x.check(), 0);
        Due.is("rides of days that were not", x.count(2), 9999);
        LiftCredit y = new LiftCredit();
        for (int i = 0; i < 166; i++) {
            y.days(60);
        }
        Due.is("one day too many", y.days(40), Due.STATE);
        Due.is("to the last day", y.days(39), 0);
        Due.is("day 9999", y.count(1), 9999);
    }

    private static void ridesAtTheirEnd() {
        LiftCredit x = Lifts.with(0, 0, 0, 0, 0, 0);
        for (int i = 0; i < 27; i++) {
            x.days(60);
        }
        x.days(46);
        Due.is("rides 9996", x.count(2), 9996);
        for (int i = 0; i < 2; i++) {
            x.ride(0);
        }
        Due.is("rides 9998", x.count(2), 9998);
        x.days(1);
        Due.is("rides 9999", x.count(2), 9999);
        Due.is("a ride more", x.ride(0), -1);
        Due.is("rides 9999 still", x.count(2), 9999);
    }

    private static void rumours() {
        LiftCredit x = new LiftCredit();
        Due.is("rumours(0)", x.rumours(0), Due.BEYOND);
        Due.is("rumours(41)", x.rumours(41), Due.BEYOND);
        Due.is("rumours(-1)", x.rumours(-1), Due.BEYOND);
        Due.is("z as at first", x.count(10), 1);
        Due.is("of fact 6: not so", x.rumours(1), 1458);
        Due.is("z behind two draws", x.count(10), -1770082073);
        x.hear(4, 1);
        Due.is("of fact 4: not so", x.rumours(1), 1620);
        Due.is("z behind four", x.count(10), -999580867);
        Due.is("two days", x.count(1), 2);
        x.hear(7, 1);
        Due.is("of fact 7: nothing", x.rumours(1), 1620);
        Due.is("z behind six", x.count(10), -1778682749);
        LiftCredit y = Lifts.with(0, 0);
        y.trust(1);
        y.story(0, 1);
        y.story(1, 729);
        Due.is("the rumour, then the day", y.rumours(1), 1459);
        Due.is("rides", y.count(2), 2);
        LiftCredit z = new LiftCredit();
        z.hear(7, 1);
        Due.is("three days at once", z.rumours(3), 1620);
        Due.is("z behind six", z.count(10), -1778682749);
        Due.is("rumours(40)", z.rumours(40) >= 0 ? 1 : 0, 1);
        Due.is("day 43", z.count(1), 43);
    }

    // ---- what would be

    private static void together() {
        LiftCredit x = Lifts.with(0, 10, 30, 0);
        Due.is("nobody says anything", x.together(15), -1);
        x.story(0, 1);
        x.story(1, 3);
        Due.is("together(1)", x.together(1), 1);
        Due.is("together(2)", x.together(2), 1);
        Due.is("together(8)", x.together(8), -1);
        Due.is("one says something", x.together(5), 2);
        Due.is("silence has its credit, too", x.together(4), -1);
        Due.is("together(3)", x.together(3), 1);
        Lifts.text(x, 1, "s*100+k*10+d-120");
        Due.is("s 1, k 2: held below", x.together(9), 0);
        Lifts.text(x, 1, "s");
        Due.is("s", x.together(15), 5);
        Lifts.text(x, 1, "k");
        Due.is("k", x.together(15), 4);
        Lifts.text(x, 1, "9-d");
        Due.is("d 0", x.together(15), 9);
        x.say(1, 0, 2);
        Due.is("d 1", x.together(15), 8);
        x.say(2, 0, 2);
        x.say(3, 0, 1);
        Due.is("each fact once", x.together(15), 8);
        x.say(3, 1, 2);
        Due.is("d 2", x.together(15), 7);
        Due.is("d within the crowd alone", x.together(6), 9);
        x.say(0, 7, 1);
        x.say(3, 7, 2);
        Due.is("d of the last fact", x.together(9), 8);
        Lifts.text(x, 1, "10+s");
        Due.is("held above", x.together(1), 9);
        Due.is("together(16)", x.together(16), Due.BEYOND);
        Due.is("together(0)", x.together(0), Due.BEYOND);
        Due.is("together(-1)", x.together(-1), Due.BEYOND);
        Due.is("together(MIN)", x.together(MIN), Due.BEYOND);
    }

    private static void bestWith() {
        LiftCredit x = Lifts.with(0, 49, 30);
        x.story(0, 1);
        x.story(1, 3);
        x.story(2, 9);
        Due.is("the crowd of rider 0", x.bestWith(0, 0), 3);
        Due.is("its floor", x.bestWith(0, 1), 5);
        Due.is("alone best", x.bestWith(1, 0), 2);
        Due.is("its floor", x.bestWith(1, 1), 9);
        Due.is("the crowd of rider 2", x.bestWith(2, 0), 6);
        Due.is("its floor", x.bestWith(2, 1), 7);
        LiftCredit y = Lifts.with(0, 49, 49);
        y.story(0, 1);
        y.story(1, 3);
        y.story(2, 6);
        Due.is("the fewest, then the least", y.bestWith(0, 0), 3);
        Lifts.text(y, 1, "0");
        Due.is("the fewest", y.bestWith(2, 0), 4);
        Due.is("its floor", y.bestWith(2, 1), 0);
        Lifts.text(y, 1, "k=2");
        Due.is("the least", y.bestWith(2, 0), 5);
        LiftCredit z = Lifts.with(0, 0);
        Due.is("nobody says anything", z.bestWith(1, 0), 2);
        Due.is("nobody says anything", z.bestWith(1, 1), -1);
        z.story(0, 2);
        z.hear(0, 1);
        Due.is("floor 0 with one who speaks", z.bestWith(1, 0), 3);
        Due.is("bestWith(2, 0)", z.bestWith(2, 0), Due.BEYOND);
        Due.is("bestWith(-1, 0)", z.bestWith(-1, 0), Due.BEYOND);
        Due.is("bestWith(0, 2)", z.bestWith(0, 2), Due.BEYOND);
        Due.is("bestWith(0, -1)", z.bestWith(0, -1), Due.BEYOND);
    }

    private static void shortest() {
        LiftCredit x = Lifts.with(0, 49, 62);
        Due.is("to the ground", x.shortest(0, 0), 1);
        Due.is("three facts", x.shortest(0, 3), 13);
        Due.is("eight facts", x.shortest(0, 8), 3280);
        Due.is("not by nine", x.shortest(0, 9), Due.NONE);
        Due.is("an inspector", x.shortest(1, 9), 1);
        Due.is("a silent one", x.shortest(2, 3), 1);
        Due.is("a silent one, above", x.shortest(2, 4), Due.NONE);
        x.hear(2, 1);
        Due.is("what was heard", x.shortest(0, 2), 9);
        Due.is("and one more", x.shortest(0, 3), 10);
        x.hear(2, 0);
        x.hear(7, 2);
        Due.is("heard not so", x.shortest(0, 2), 4374);
        Due.is("less long ahead of less", x.shortest(0, 3), 4375);
        x.story(0, 500);
        Due.is("whatever the story is", x.shortest(0, 2), 4374);
        Due.is("which stays", x.ofRider(0, 2), 500);
        Lifts.text(x, 0, "h*9+c*9");
        Due.is("the other way round is less", x.shortest(0, 9), 2187);
        Due.is("shortest(3, 0)", x.shortest(3, 0), Due.BEYOND);
        Due.is("shortest(-1, 0)", x.shortest(-1, 0), Due.BEYOND);
        Due.is("shortest(0, 10)", x.shortest(0, 10), Due.BEYOND);
        Due.is("shortest(0, -1)", x.shortest(0, -1), Due.BEYOND);
    }

    private static void truest() {
        LiftCredit x = Lifts.with(0);
        x.world(6);
        Due.is("to the ground", x.truest(0, 0), 2);
        Due.is("two facts", x.truest(0, 2), 5);
        Due.is("eight facts", x.truest(0, 8), 6548);
        Due.is("not by nine", x.truest(0, 9), Due.NONE);
        x.hear(0, 1);
        Due.is("heard what isn't so", x.truest(0, 1), 3);
        Due.is("then seven only", x.truest(0, 8), Due.NONE);
        x.hear(7, 2);
        Due.is("heard what is so", x.truest(0, 2), 4374);
        x.world(255);
        Due.is("another world", x.truest(0, 2), 1);
        Due.is("truest(1, 0)", x.truest(1, 0), Due.BEYOND);
        Due.is("truest(-1, 0)", x.truest(-1, 0), Due.BEYOND);
        Due.is("truest(0, 10)", x.truest(0, 10), Due.BEYOND);
        Due.is("truest(0, -1)", x.truest(0, -1), Due.BEYOND);
    }

    private static void out() {
        LiftCredit x = Lifts.with(0, 20);
        Due.is("nothing said", x.out(0, 0), Due.NONE);
        x.story(0, 13);
        x.hear(0, 2);
        Due.is("nothing need be left out", x.out(0, 0), 0);
        Due.is("out with fact 0", x.out(0, 1), 1);
        Due.is("out with fact 0", x.out(0, 2), 1);
        Due.is("not by any", x.out(0, 3), Due.NONE);
        x.hear(1, 2);
        Due.is("out with two", x.out(0, 1), 3);
        Due.is("not all", x.out(0, 2), Due.NONE);
        x.story(1, 13);
        Due.is("of several the least", x.out(1, 1), 1);
        x.say(0, 0, 0);
        Due.is("what isn't said isn't left out", x.out(0, 1), 2);
        Due.is("the story stays", x.ofRider(0, 2), 12);
        LiftCredit y = Lifts.with(0);
        Lifts.text(y, 0, "(h=0|n=0)*9");
        y.story(0, 13);
        y.hear(2, 1);
        Due.is("fewest ahead of least", y.out(0, 9), 4);
        y.story(0, 13 + 2187);
        y.hear(7, 2);
        Due.is("the last fact stays in", y.out(0, 9), 4);
        Due.is("out(1, 0)", y.out(1, 0), Due.BEYOND);
        Due.is("out(-1, 0)", y.out(-1, 0), Due.BEYOND);
        Due.is("out(0, 10)", y.out(0, 10), Due.BEYOND);
        Due.is("out(0, -1)", y.out(0, -1), Due.BEYOND);
    }

    private static void when() {
        LiftCredit x = Lifts.with(0, 0);
        x.trust(1);
        x.story(0, 1);
        Due.is("there already", x.when(0, 1), 0);
        Due.is("behind a day", x.when(0, 2), 1);
        Due.is("not by 60", x.when(0, 3), Due.NONE);
        Due.is("the cellar", x.when(1, 0), Due.NONE);
        x.story(1, 4);
        Due.is("by what another says", x.when(1, 3), 1);
        Due.is("by what another says", x.when(1, 4), 1);
        Due.is("nothing is heard", x.heard(), 0);
        Due.is("no day", x.count(1), 0);
        Due.is("no ride", x.count(2), 0);
        LiftCredit y = Lifts.threeDays();
        Due.is("behind three days", y.when(0, 6), 3);
        Due.is("behind two days", y.when(0, 4), 2);
        Due.is("behind two days", y.when(1, 6), 2);
        Due.is("when(2, 0)", x.when(2, 0), Due.BEYOND);
        Due.is("when(-1, 0)", x.when(-1, 0), Due.BEYOND);
        Due.is("when(0, 10)", x.when(0, 10), Due.BEYOND);
        Due.is("when(0, -1)", x.when(0, -1), Due.BEYOND);
    }

    private static void still() {
        Due.is("no riders", new LiftCredit().still(), 0);
        LiftCredit x = Lifts.with(0);
        x.trust(1);
        x.story(0, 1);
        Due.is("one day", x.still(), 1);
        Due.is("three days", Lifts.threeDays().still(), 3);
        Due.is("never", Lifts.swing().still(), Due.NONE);
        LiftCredit y = Lifts.with(0, 49);
        y.trust(1);
        y.story(0, 1);
        y.story(1, 2);
        Due.is("within the day heard and given up", y.still(), 0);
        Due.is("no day", y.count(1), 0);
        Due.is("no ride", y.count(2), 0);
    }

    private static void then() {
        LiftCredit x = Lifts.threeDays();
        int[] due = {1, 13, 40, 364, 364};
        for (int n = 0; n < due.length; n++) {
            Due.is("then(" + n + ")", x.then(n), due[n]);
        }
        Due.is("heard now", x.heard(), 1);
        Due.is("no day", x.count(1), 0);
        Due.is("no ride", x.count(2), 0);
        LiftCredit y = Lifts.swing();
        Due.is("then(59)", y.then(59), 6);
        Due.is("then(60)", y.then(60), 0);
        Due.is("then(61)", y.then(61), Due.BEYOND);
        Due.is("then(-1)", y.then(-1), Due.BEYOND);
    }

    private static void believed() {
        LiftCredit x = Lifts.with(0, 49);
        x.story(0, 1);
        Lifts.numbers(x, 0, 8);
        Due.is("an empty sheet", x.believed(0, 0), 6561);
        Due.is("the least", x.believed(0, 1), 0);
        int[][] due = {{2, 2187, 1}, {1, 2187, 0}, {0, 2187, 2}};
        for (int[] row : due) {
            Lifts.numbers(x, 1, 16, row[0]);
            Due.is("floor " + row[0], x.believed(1, 0), row[1]);
            Due.is("the least", x.believed(1, 1), row[2]);
        }
        Lifts.numbers(x, 1, 16, 3);
        Due.is("in no way", x.believed(1, 0), 0);
        Due.is("no least", x.believed(1, 1), Due.NONE);
        Lifts.numbers(x, 2, 32, 2, -1);
        Due.is("the cellar", x.believed(2, 0), 2187);
        x.story(1, 18);
        Lifts.numbers(x, 2, 32, 2, 5);
        Due.is("fact 0 so, fact 2 so", x.believed(2, 0), 729);
        Due.is("the least", x.believed(2, 1), 10);
        Due.is("whatever is heard", x.hear(0, 2), 0);
        Due.is("the least", x.believed(2, 1), 10);
        Lifts.numbers(x, 2, 32, 2, 5, 0);
        Due.is("more numbers than riders", x.believed(2, 0), Due.NONE);
        Due.is("more numbers than riders", x.believed(2, 1), Due.NONE);
        Lifts.text(x, 0, "h");
        x.story(0, 6560);
        Lifts.numbers(x, 2, 8, 8);
        Due.is("the last way alone", x.believed(2, 0), 1);
        Due.is("the least", x.believed(2, 1), 6560);
        Due.is("its word", x.word(2, 0, 0), 0);
        Due.is("a missing sheet", x.believed(3, 0), Due.NONE);
        Due.is("believed(4, 0)", x.believed(4, 0), Due.BEYOND);
        Due.is("believed(-1, 0)", x.believed(-1, 0), Due.BEYOND);
        Due.is("believed(3, 2)", x.believed(3, 2), Due.BEYOND);
        Due.is("believed(3, -1)", x.believed(3, -1), Due.BEYOND);
    }

    private static void word() {
        LiftCredit x = Lifts.with(0, 49, 62);
        x.story(0, 1);
        Lifts.numbers(x, 0, 8);
        Due.is("of several the least", x.word(0, 0, 0), 0);
        Due.is("floors 0, 1, 2", x.word(0, 0, 1), 3);
        Due.is("an inspector's 5 and 9", x.word(0, 1, 1), 2);
        Due.is("a silent one's 0, 3 and 4", x.word(0, 2, 1), 3);
        Lifts.numbers(x, 0, 8, 2);
        Due.is("fact 0 is known", x.word(0, 0, 0), 1);
        Due.is("three by another", x.word(0, 0, 1), 3);
        x.story(0, 3280);
        Lifts.numbers(x, 0, 8, 8);
        Lifts.text(x, 0, "n");
        Lifts.numbers(x, 0, 8, 8);
        Due.is("one way", x.believed(0, 0), 1);
        Due.is("no word tells", x.word(0, 0, 0), 0);
        Due.is("one floor", x.word(0, 0, 1), 1);
        x.story(0, 3279);
        Lifts.numbers(x, 0, 8, 7);
        Due.is("fact 0 tells", x.word(0, 0, 0), 0);
        Due.is("two floors", x.word(0, 0, 1), 2);
        x.story(0, 3280 - 2187);
        Due.is("fact 7 tells", x.word(0, 0, 0), 7);
        Lifts.numbers(x, 0, 8, 9);
        Due.is("no way", x.word(0, 0, 0), Due.NONE);
        Due.is("no way", x.word(0, 0, 1), Due.NONE);
        Lifts.numbers(x, 0, 8, 0, 0, 0, 0);
        Due.is("more numbers than riders", x.word(0, 0, 0), Due.NONE);
        Due.is("a missing sheet", x.word(3, 0, 0), Due.NONE);
        Due.is("word(4, 0, 0)", x.word(4, 0, 0), Due.BEYOND);
        Due.is("word(-1, 0, 0)", x.word(-1, 0, 0), Due.BEYOND);
        Due.is("word(3, 3, 0)", x.word(3, 3, 0), Due.BEYOND);
        Due.is("word(3, -1, 0)", x.word(3, -1, 0), Due.BEYOND);
        Due.is("word(3, 0, 2)", x.word(3, 0, 2), Due.BEYOND);
        Due.is("word(3, 0, -1)", x.word(3, 0, -1), Due.BEYOND);
    }

    // ---- draws, voices

    private static void seed() {
        LiftCredit x = new LiftCredit();
        Due.is("seed(MIN)", x.seed(MIN), 1);
        Due.is("seed(1)", x.seed(1), MIN);
        Due.is("rumours by it", x.rumours(1), 1458);
        Due.is("seed(0)", x.seed(0), -1770082073);
        Due.is("z", x.count(10), 0);
        x.hear(6, 0);
        x.rumours(1);
        Due.is("z behind two draws from 0", x.count(10), 12345 * 1103515245 + 12345);
    }

    private static void speaks(LiftCredit x, int rider, int act, int number, int due, int... bodies) {
        String call = "voice(" + rider + ", " + act + ", " + number + ")";
        Due.is(call, x.voice(rider, act, number), due);
        Due.is("bodies of " + call, x.count(9), bodies.length);
        for (int i = 0; i < bodies.length; i++) {
            Due.is("body " + i + " of " + call, x.trace(i), bodies[i]);
        }
        Due.is("no more bodies", x.trace(bodies.length), Due.NONE);
    }

    private static void voices() {
        LiftCredit x = Lifts.with(4, 13, 25, 37, 49, 58);
        speaks(x, 0, 0, 7, 7, 10);
        speaks(x, 0, 1, 7, 14, 11, 10);
        speaks(x, 0, 2, 7, 3, 12);
        speaks(x, 0, 3, 7, 13, 13, 11, 10, 12);
        speaks(x, 1, 0, 7, 24, 20, 10);
        speaks(x, 1, 1, 7, 48, 11, 20, 10);
        speaks(x, 1, 2, 7, 4, 12);
        speaks(x, 1, 3, 7, 52, 13, 11, 20, 10, 12);
        speaks(x, 2, 0, 7, 9, 10);
        speaks(x, 2, 1, 7, 22, 30, 11, 10, 12);
        speaks(x, 2, 2, 7, 2, 12);
        speaks(x, 2, 3, 7, 20, 13, 30, 11, 10, 12, 12);
        speaks(x, 3, 0, 9, 12, 10);
        speaks(x, 3, 1, 9, 24, 11, 10);
        speaks(x, 3, 2, 9, -2, 40, 12);
        speaks(x, 3, 3, 9, -26, 13, 11, 10, 40, 12);
        speaks(x, 4, 0, 7, 33, 20, 10);
        speaks(x, 4, 1, 7, 66, 11, 20, 10);
        speaks(x, 4, 2, 7, -2, 12);
        speaks(x, 4, 3, 7, -86, 50, 13, 11, 20, 10, 12, 20, 10);
        speaks(x, 5, 0, 7, 12, 10);
        speaks(x, 5, 1, 7, 33, 60, 30, 11, 10, 12);
        speaks(x, 5, 2, 7, -1, 12);
        speaks(x, 5, 3, 7, -34, 13, 60, 30, 11, 10, 12, 12);
        x.become(3, 67);
        speaks(x, 3, 0, 9, 12, 10);
        speaks(x, 3, 1, 9, 24, 11, 10);
        speaks(x, 3, 2, 9, -3, 70, 40, 12);
        speaks(x, 3, 3, 9, 51, 71, 11, 10, 13, 11, 10, 70, 40, 12);
        speaks(x, 1, 0, MAX, MIN, 20, 10);
        speaks(x, 0, 2, MIN, MAX - 3, 12);
        Due.is("voice(6, 0, 0)", x.voice(6, 0, 0), Due.BEYOND);
        Due.is("voice(-1, 0, 0)", x.voice(-1, 0, 0), Due.BEYOND);
        Due.is("voice(0, 4, 0)", x.voice(0, 4, 0), Due.BEYOND);
        Due.is("voice(0, -1, 0)", x.voice(0, -1, 0), Due.BEYOND);
        Due.is("the trace as before", x.trace(0), 12);
    }

    private static void trace() {
        LiftCredit x = Lifts.with(0, 10);
        Due.is("trace(0)", x.trace(0), Due.NONE);
        x.voice(1, 3, 0);
        Due.is("trace(4)", x.trace(4), 12);
        Due.is("trace(5)", x.trace(5), Due.NONE);
        Due.is("trace(-1)", x.trace(-1), Due.NONE);
        Due.is("trace(40)", x.trace(40), Due.NONE);
        Due.is("trace(MAX)", x.trace(MAX), Due.NONE);
        Due.is("trace(MIN)", x.trace(MIN), Due.NONE);
        x.voice(0, 0, 0);
        Due.is("of the latest voice", x.trace(0), 10);
        Due.is("of the latest voice alone", x.trace(1), Due.NONE);
    }

    // ---- sheets

    private static void sheet() {
        LiftCredit x = Lifts.with(0);
        Due.is("sheet(4, 8, 1)", x.sheet(4, 8, 1), Due.BEYOND);
        Due.is("sheet(-1, 8, 1)", x.sheet(-1, 8, 1), Due.BEYOND);
        Due.is("sheet(0, 7, 1)", x.sheet(0, 7, 1), Due.BEYOND);
        Due.is("sheet(0, 64, 1)", x.sheet(0, 64, 1), Due.BEYOND);
        Due.is("sheet(0, -8, 1)", x.sheet(0, -8, 1), Due.BEYOND);
        Due.is("sheet(0, 8, 41)", x.sheet(0, 8, 41), Due.BEYOND);
        Due.is("sheet(0, 8, -1)", x.sheet(0, 8, -1), Due.STATE);
        Due.is("sheet(0, 8, MIN)", x.sheet(0, 8, MIN), Due.STATE);
        Due.is("bits ahead of n", x.sheet(0, 9, -1), Due.BEYOND);
        Due.is("the sheet ahead of n", x.sheet(4, 8, -1), Due.BEYOND);
        Due.is("missing still", x.put(0, 0, 0), Due.NONE);
        Due.is("sheet(0, 8, 40)", x.sheet(0, 8, 40), 1);
        Due.is("its last number", x.put(0, 39, 1), 1);
        Due.is("beyond it", x.put(0, 40, 1), Due.BEYOND);
        Due.is("sheet(0, 16, -1)", x.sheet(0, 16, -1), Due.STATE);
        Due.is("as before", x.put(0, 39, 1), 1);
        Due.is("missing, n doesn't matter", x.sheet(0, 0, -1), 1);
        Due.is("it is", x.put(0, 0, 0), Due.NONE);
        Due.is("missing, n doesn't matter", x.sheet(0, 0, 99), 1);
        Due.is("sheet(3, 32, 0)", x.sheet(3, 32, 0), 1);
        Due.is("without numbers, not missing", x.put(3, 0, 0), Due.BEYOND);
        Lifts.numbers(x, 1, 16, 5);
        x.sheet(1, 16, 1);
        Due.is("stories of an empty number", x.stories(1), 1);
        Due.is("all 0", x.ofRider(0, 2), 0);
        x.sheet(1, 8, 5);
        x.put(1, 4, 3);
        x.sheet(1, 8, 1);
        x.sheet(1, 8, 5);
        x.sheet(2, 8, 1);
        x.move(1, 4, 2, 0, 1);
        x.story(0, 9);
        x.stories(2);
        Due.is("all 0", x.ofRider(0, 2), 0);
    }

    private static void put() {
        LiftCredit x = Lifts.with(0);
        Due.is("put(4, 0, 0)", x.put(4, 0, 0), Due.BEYOND);
        Due.is("put(-1, 0, 0)", x.put(-1, 0, 0), Due.BEYOND);
        Due.is("a missing sheet", x.put(0, 0, 0), Due.NONE);
        Due.is("a missing sheet ahead of the number", x.put(0, -1, 0), Due.NONE);
        x.sheet(0, 8, 2);
        Due.is("put(0, 2, 0)", x.put(0, 2, 0), Due.BEYOND);
        Due.is("put(0, -1, 0)", x.put(0, -1, 0), Due.BEYOND);
        Due.is("put(0, 1, 0)", x.put(0, 1, 0), 1);
        int[][] due = {
            {8, 127, 127}, {8, 256 + 7, 7}, {8, -256 + 9, 9}, {16, 6560, 6560}, {16, 65536 + 300, 300},
            {16, -65536 + 6, 6}, {32, 6560, 6560},
        };
        for (int[] row : due) {
            Lifts.numbers(x, 1, row[0], row[1]);
            Due.is("lowest bits of " + row[1], x.stories(1), 1);
            Due.is("lowest bits of " + row[1], x.ofRider(0, 2), row[2]);
        }
        x.story(0, 0);
        int[][] cellar = {{8, -1, 1}, {8, 255, 1}, {8, 127, 0}, {16, 255, 0}, {16, 65535, 1}, {32, 65535, 0}, {32, -1, 1}};
        for (int[] row : cellar) {
            Lifts.numbers(x, 1, row[0], row[1]);
            Due.is(row[1] + " in " + row[0] + " bits is the cellar", x.judge(1), row[2] == 1 ? -1 : 0);
        }
    }

    private static void move() {
        LiftCredit x = Lifts.with(0, 0, 0, 0);
        Due.is("move(4, ..)", x.move(4, 0, 0, 0, 0), Due.BEYOND);
        Due.is("move(-1, ..)", x.move(-1, 0, 0, 0, 0), Due.BEYOND);
        Due.is("move(.., 4, ..)", x.move(0, 0, 4, 0, 0), Due.BEYOND);
        Due.is("move(.., -1, ..)", x.move(0, 0, -1, 0, 0), Due.BEYOND);
        Due.is("both missing", x.move(0, 0, 1, 0, 0), Due.NONE);
        Lifts.numbers(x, 0, 16, 1, 2, 3, 4);
        Due.is("one missing", x.move(0, 0, 1, 0, 1), Due.NONE);
        Due.is("the other missing", x.move(1, 0, 0, 0, 1), Due.NONE);
        Lifts.numbers(x, 1, 8, 0, 0);
        Due.is("unlike bits", x.move(0, 0, 1, 0, 1), Due.KIND);
        Due.is("unlike bits ahead of places", x.move(0, -1, 1, 9, 99), Due.KIND);
        Lifts.numbers(x, 1, 16, 9, 9);
        int[][] wrong = {
            {0, 0, 1, 0, -1}, {0, -1, 1, 0, 1}, {0, 0, 1, -1, 1}, {0, 4, 1, 0, 1}, {0, 0, 1, 2, 1}, {0, 2, 1, 0, 3},
            {0, 0, 1, 0, 3}, {0, MAX, 1, 0, 1}, {0, 1, 1, 0, MAX}, {0, 0, 1, MAX, 2}, {0, 5, 1, 0, 0},
            {0, 0, 1, 3, 0}, {0, MIN, 1, MIN, MIN},
        };
        for (int[] a : wrong) {
            String call = "move(0, " + a[1] + ", 1, " + a[3] + ", " + a[4] + ")";
            Due.is(call, x.move(a[0], a[1], a[2], a[3], a[4]), Due.BEYOND);
        }
        Due.is("none at the end", x.move(0, 4, 1, 2, 0), 0);
        sheetIs(x, 1, 9, 9);
        Due.is("two of them", x.move(0, 2, 1, 0, 2), 2);
        sheetIs(x, 1, 3, 4);
        sheetIs(x, 0, 1, 2, 3, 4);
        Due.is("upwards in itself", x.move(0, 0, 0, 1, 3), 3);
        sheetIs(x, 0, 1, 1, 2, 3);
        Lifts.numbers(x, 0, 16, 1, 2, 3, 4);
        Due.is("downwards in itself", x.move(0, 1, 0, 0, 3), 3);
        sheetIs(x, 0, 2, 3, 4, 4);
    }

    /** A SHEET's numbers are seen as STORIES only. */
    private static void sheetIs(LiftCredit x, int sheet, int... due) {
        Due.is("stories(" + sheet + ")", x.stories(sheet), due.length);
        for (int i = 0; i < due.length; i++) {
            Due.is("number " + i + " of sheet " + sheet, x.ofRider(i, 2), due[i]);
        }
    }

    private static void stories() {
        LiftCredit x = Lifts.with(0, 0, 0);
        Due.is("stories(4)", x.stories(4), Due.BEYOND);
        Due.is("stories(-1)", x.stories(-1), Due.BEYOND);
        Due.is("a missing sheet", x.stories(0), Due.NONE);
        Lifts.numbers(x, 0, 16);
        Due.is("no numbers", x.stories(0), 0);
        Lifts.numbers(x, 0, 16, 6560, 0);
        x.story(1, 7);
        x.story(2, 8);
        Due.is("two numbers", x.stories(0), 2);
        Due.is("story 0", x.ofRider(0, 2), 6560);
        Due.is("story 1", x.ofRider(1, 2), 0);
        Due.is("story 2 as before", x.ofRider(2, 2), 8);
        Lifts.numbers(x, 0, 16, 1, 6561, 2);
        Due.is("up to 6561", x.stories(0), 1);
        Due.is("story 0", x.ofRider(0, 2), 1);
        Due.is("story 1 as before", x.ofRider(1, 2), 0);
        Due.is("story 2 as before", x.ofRider(2, 2), 8);
        Lifts.numbers(x, 0, 32, -1, 2);
        Due.is("up to -1", x.stories(0), 0);
        Due.is("story 0 as before", x.ofRider(0, 2), 1);
        Lifts.numbers(x, 0, 8, 3, 4, 5, 6);
        Due.is("no rider for the fourth", x.stories(0), 3);
        Due.is("no ERROR", x.told(2), 1);
        Due.is("no riders", withSheet(new LiftCredit(), 1).stories(0), 0);
    }

    private static LiftCredit withSheet(LiftCredit x, int... floors) {
        Lifts.numbers(x, 0, 8, floors);
        return x;
    }

    private static void judge() {
        LiftCredit x = Lifts.with(0, 0);
        x.story(0, 13);
        Due.is("judge(4)", x.judge(4), Due.BEYOND);
        Due.is("judge(-1)", x.judge(-1), Due.BEYOND);
        Due.is("a missing sheet", x.judge(0), Due.NONE);
        int[][] due = {{-1, 3, -1}, {0, 4, -1}, {1, 3, 0}, {1, 3}, {0}, {2, 3, -1, 0}, {0, 2, -1, 0}, {2, 3, -1, -1}};
        for (int[] row : due) {
            int[] floors = java.util.Arrays.copyOfRange(row, 1, row.length);
            Due.is("judge " + java.util.Arrays.toString(floors), withSheet(x, floors).judge(0), row[0]);
        }
        Due.is("nobody, nothing", withSheet(new LiftCredit()).judge(0), -1);
        Due.is("nobody, one number", withSheet(new LiftCredit(), -1).judge(0), 0);
    }

    // ---- images, what is told

    private static void imageAndRestore() {
        LiftCredit x = Lifts.with(49, 30);
        x.story(0, 1);
        x.story(1, 5);
        x.hear(3, 2);
        x.world(77);
        x.trust(1);
        x.days(2);
        x.ride(1);
        x.seed(99);
        x.tell(8);
        Lifts.text(x, 0, "h*5+n");
        Lifts.text(x, 1, "k");
        Lifts.feed(x, "h+");
        int[] counts = new int[11];
        for (int what = 0; what <= 10; what++) {
            counts[what] = x.count(what);
        }
        int heard = x.heard();
        Due.is("restore with none", x.restore(), Due.NONE);
        Due.is("image", x.image(), 1);
        x.story(0, 300);
        x.become(1, 12);
        x.say(1, 7, 1);
        x.rider(66);
        x.hear(3, 1);
        x.world(1);
        x.trust(8);
        x.days(5);
        x.rumours(3);
        x.tell(9);
        Lifts.text(x, 0, "7");
        x.text(0);
        Lifts.text(x, 1, "8");
        Lifts.feed(x, "nnn");
        for (int times = 0; times < 2; times++) {
            Due.is("restore", x.restore(), 2);
            for (int what = 0; what <= 10; what++) {
                if (what != 9) {
                    Due.is("restored count(" + what + ")", x.count(what), counts[what]);
                }
            }
            Due.is("restored heard", x.heard(), heard);
            Due.is("restored kind", x.ofRider(1, 0), 3);
            Due.is("restored m", x.ofRider(1, 1), 0);
            Due.is("restored story", x.ofRider(0, 2), 1);
            Due.is("restored story", x.ofRider(1, 2), 5);
            Due.is("restored text", x.law(0, 3, 0, 2), 17);
            Due.is("restored text", x.law(1, 0, 4, 0), 4);
            Due.is("restored credit", x.ofRider(0, 7), 14);
            Due.is("no third rider", x.ofRider(2, 0), Due.BEYOND);
            x.feed('n', 1);
            Due.is("restored tape", x.text(0), 1);
            Due.is("restored tape", x.law(0, 3, 0, 2), 5);
            Due.is("restored number that waits", x.tell(9), 2);
            Due.is("which is wrong", x.check(), 1);
            x.story(0, 300);
            x.hear(0, 0);
            x.days(1);
        }
        Due.is("a second image", x.image(), 2);
        x.days(4);
        Due.is("in place of the first", x.restore(), 3);
        Due.is("a new rider after", x.rider(11), 2);
        Due.is("says nothing", x.ofRider(2, 2), 0);
    }

    private static void imageKeepsNoMore() {
        LiftCredit x = Lifts.with(0, 10);
        Lifts.numbers(x, 0, 16, 40);
        x.voice(0, 0, 1);
        x.hear(9, 9);
        x.image();
        x.image();
        Lifts.numbers(x, 0, 16, 41, 42);
        x.voice(1, 0, 1);
        x.hear(9, 9);
        Due.is("restore", x.restore(), 0);
        Due.is("not what told tells", x.told(1), 2);
        Due.is("not the trace", x.trace(0), 20);
        Due.is("not the sheets", x.stories(0), 2);
        Due.is("not the sheets", x.ofRider(0, 2), 41);
        Due.is("not how often", x.image(), 3);
        LiftCredit y = Lifts.with(0);
        y.story(0, 7);
        y.image();
        y.rider(10);
        y.story(1, 8);
        y.restore();
        Due.is("a rider again", y.rider(20), 1);
        Due.is("says nothing", y.ofRider(1, 2), 0);
        Due.is("is of its kind", y.ofRider(1, 0), 2);
    }

    private static void tellAndCheck() {
        LiftCredit x = Lifts.threeDays();
        Due.is("none waits", x.check(), 0);
        Due.is("tell", x.tell(13), 1);
        Due.is("tell", x.tell(40), 2);
        Due.is("tell", x.tell(364), 3);
        Due.is("tell", x.tell(364), 4);
        Due.is("all are so", x.check(), 0);
        Due.is("none waits then", x.count(8), 0);
        Due.is("no day", x.count(1), 0);
        Due.is("no ride", x.count(2), 0);
        Due.is("heard as before", x.heard(), 1);
        x.tell(13);
        x.tell(40);
        x.tell(-7);
        x.tell(-8);
        Due.is("the third isn't", x.check(), 3);
        Due.is("none waits then", x.count(8), 0);
        x.tell(1);
        Due.is("the first isn't", x.check(), 1);
        for (int i = 1; i <= 20; i++) {
            Due.is("tell", x.tell(i == 1 ? 13 : i == 2 ? 40 : 364), i);
        }
        Due.is("a number more", x.tell(364), Due.FULL);
        Due.is("20 wait", x.count(8), 20);
        Due.is("all are so", x.check(), 0);
        for (int i = 1; i <= 20; i++) {
            x.tell(i == 1 ? 13 : i == 2 ? 40 : i == 20 ? 0 : 364);
        }
        Due.is("the last isn't", x.check(), 20);
        x.tell(MIN);
        Due.is("any number", x.check(), 1);
    }

    private static void count() {
        LiftCredit x = Lifts.with(0, 10, 20);
        x.hear(0, 1);
        x.hear(1, 2);
        x.hear(6, 1);
        x.hear(7, 2);
        x.world(1 + 128 + 4);
        x.trust(7);
        x.days(4);
        x.ride(0);
        x.feed(0, 5);
        x.tell(1);
        x.tell(1);
        x.voice(1, 0, 0);
        x.seed(-5);
        int[] due = {3, 4, 13, 4, 2, 7, 133, 5, 2, 2, -5};
        for (int what = 0; what < due.length; what++) {
            Due.is("count(" + what + ")", x.count(what), due[what]);
        }
        Due.is("count(11)", x.count(11), Due.BEYOND);
        Due.is("count(-1)", x.count(-1), Due.BEYOND);
    }

    private static void told() {
        LiftCredit x = Lifts.with(0);
        x.hear(8, 0);
        x.trace(3);
        x.trace(-3);
        x.sheet(0, 8, -1);
        x.sheet(0, 8, -1);
        x.sheet(0, 8, -1);
        for (int i = 0; i < 24; i++) {
            x.tell(i);
        }
        for (int i = 0; i < 5; i++) {
            x.as(0, 1);
        }
        for (int k = 1; k <= 5; k++) {
            Due.is("told(" + k + ")", x.told(k), k);
        }
        Due.is("told(0)", x.told(0), Due.BEYOND);
        Due.is("told(6)", x.told(6), Due.BEYOND);
        Due.is("told(-1)", x.told(-1), Due.BEYOND);
        Due.is("counted, too", x.told(1), 4);
        Due.is("a told is no ERROR", x.told(1), 4);
        Lifts.text(x, 0, "x");
        Due.is("a FAULT is no ERROR", x.told(1) + x.told(2) + x.told(3), 9);
    }

    private static void anyNumberIsNoError() {
        LiftCredit x = Lifts.with(0);
        Due.is("a voice that sounds like an ERROR", x.voice(0, 0, Due.BEYOND), Due.BEYOND);
        x.seed(Due.BEYOND);
        Due.is("a z that looks like one", x.count(10), Due.BEYOND);
        Due.is("a z that looks like one", x.seed(0), Due.BEYOND);
        Due.is("none was told", x.told(1), 0);
    }
}
