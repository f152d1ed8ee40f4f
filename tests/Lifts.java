/** Lifts to begin a test with, and what takes several calls. */
final class Lifts {
    static final int LAST_DAY = 9999;

    private Lifts() {
    }

    /** A lift with riders of these KINDS (km), none of whom says anything. */
    static LiftCredit with(int... kms) {
        LiftCredit x = new LiftCredit();
        for (int km : kms) {
            x.rider(km);
        }
        return x;
    }

    static LiftCredit saying(LiftCredit x, int... stories) {
        for (int i = 0; i < stories.length; i++) {
            x.story(i, stories[i]);
        }
        return x;
    }

    static void feed(LiftCredit x, String text) {
        for (int i = 0; i < text.length(); i += 8) {
            int bytes = Math.min(8, text.length() - i);
            long word = 0;
            for (int at = bytes - 1; at >= 0; at--) {
                word = word << 8 | text.charAt(i + at);
            }
            x.feed(word, bytes);
        }
    }

    static int text(LiftCredit x, int use, String text) {
        feed(x, text);
        return x.text(use);
    }

    static LiftCredit numbers(LiftCredit x, int sheet, int bits, int... numbers) {
        x.sheet(sheet, bits, numbers.length);
        for (int i = 0; i < numbers.length; i++) {
            x.put(sheet, i, numbers[i]);
        }
        return x;
    }

    static LiftCredit hearing(LiftCredit x, int heard) {
        for (int fact = 0, rest = heard; fact < 8; fact++, rest /= 3) {
            x.hear(fact, rest % 3);
        }
        return x;
    }

    static LiftCredit onDay(LiftCredit x, int day) {
        for (int now = x.count(1); now < day; now += 60) {
            x.days(Math.min(60, day - now));
        }
        return x;
    }

    // ---- lifts in which there is much to lose

    /** Five riders; sheet 3 is missing; all else holds something, and an IMAGE holds other things. */
    static LiftCredit furnished() {
        LiftCredit x = furnishedButTheTape();
        feed(x, "h*7+");
        return x;
    }

    static LiftCredit furnishedButTheTape() {
        LiftCredit x = saying(with(4, 13, 25, 37, 49), 13, 55, 6560, 2187, 8);
        x.trust(2);
        x.world(11);
        x.hear(5, 1);
        text(x, 0, "h*3+n-c*2");
        text(x, 1, "s-d*3+k");
        x.days(2);
        x.ride(3);
        x.seed(77);
        x.tell(x.then(1));
        feed(x, "n+");
        x.image();
        x.text(1);
        x.check();
        text(x, 0, "h*2+n*3-c");
        text(x, 1, "s/k+d");
        x.become(2, 68);
        saying(x, 1, 700, 4377, 81, 5);
        x.world(77);
        x.rumours(2);
        hearing(x, 5);
        x.trust(4);
        x.seed(-12345);
        someErrors(x);
        numbers(x, 0, 8, 3, -1, 100, 7);
        numbers(x, 1, 16, 6560, 300, -2);
        numbers(x, 2, 32, 6000, 70000);
        x.voice(4, 3, 5);
        for (int days = 1; days <= 3; days++) {
            x.tell(x.then(days));
        }
        return x;
    }

    /** One BEYOND, two NONE, one STATE, one KIND. */
    private static void someErrors(LiftCredit x) {
        x.hear(8, 0);
        x.trace(-1);
        x.trace(0);
        x.sheet(0, 8, -1);
        x.as(0, 1);
    }

    static LiftCredit withSixRiders() {
        LiftCredit x = furnished();
        x.rider(66);
        x.story(5, 12);
        return x;
    }

    static LiftCredit withFullTape() {
        LiftCredit x = furnished();
        feed(x, "1+1+1+1+1+1+1+1+1+1+1+1+1+1+1+1+1+1+1+1+1+1+11");
        return x;
    }

    static LiftCredit withTwentyWaiting() {
        LiftCredit x = furnished();
        for (int days = 4; days <= 20; days++) {
            x.tell(x.then(days));
        }
        return x;
    }

    /** Two riders on the last DAY there is; less of all than else, as the days take calls. */
    static LiftCredit onTheLastDay() {
        return shortOfTheLastDay(0);
    }

    static LiftCredit shortOfTheLastDay(int days) {
        LiftCredit x = onDay(with(0, 49), LAST_DAY - days);
        saying(x, 1, 6);
        x.trust(1);
        x.image();
        x.seed(5);
        numbers(x, 0, 8, 1);
        x.tell(x.then(1));
        feed(x, "7+");
        return x;
    }

    // ---- lifts in which something comes to pass by and by

    /**
     * TRUST 4, FACT 0 heard so, each rider ahead of the one who lets it be trusted a day later:
     * rider 2 (facts 0, 1, 2: h 1, n 2, a CREDIT of 4) at once, then rider 1 (1, 2, 3: h 2, n 1,
     * 5), then rider 0 (3, 4, 5: h 1, n 2, 4). Each has 3 before.
     */
    static LiftCredit threeDays() {
        LiftCredit x = saying(with(0, 0, 0), 27 + 81 + 243, 3 + 9 + 27, 1 + 3 + 9);
        x.trust(4);
        x.hear(0, 1);
        return x;
    }

    /**
     * By "(h=0)*9" rider 0 is heard on days 1, 3, .. (7, of which rider 2 makes 6), rider 1 on days
     * 2, 4, .. (1, of which rider 2 makes 0): it is never still.
     */
    static LiftCredit swing() {
        LiftCredit x = saying(with(0, 0, 0), 7, 4, 2);
        text(x, 0, "(h=0)*9");
        x.trust(1);
        return x;
    }

    /** Found by a search, as is what comes of it: still behind 60 DAYS if 4428 is HEARD, 61 if 4375. */
    static LiftCredit slow(int heard) {
        LiftCredit x = saying(with(25, 6, 53, 47, 21, 1), 2186, 6272, 1749, 1275, 3820, 336);
        text(x, 0, "6*!h");
        x.trust(2);
        return hearing(x, heard);
    }

    /** Found by a search: rider 1 is at floor 2 behind 60 DAYS if 1554 is HEARD, 61 if 2268. */
    static LiftCredit late(int heard) {
        LiftCredit x = saying(with(49, 26, 55, 5, 39, 31), 711, 6189, 539, 354, 3165, 844);
        text(x, 0, "!h*7+c");
        x.trust(4);
        return hearing(x, heard);
    }
}
