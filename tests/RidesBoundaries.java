/** The boundaries of draws in "Terms 3" and in promises 15 to 17: rides. */
final class RidesBoundaries {
    private static final int MIN = Integer.MIN_VALUE;
    private static final int MAX = Integer.MAX_VALUE;

    private RidesBoundaries() {
    }

    @Sentence(of = "Promise 15", says = "A RIDE: FLOOR.")
    static void rideToEachFloor() {
        LiftCredit x = Lifts.saying(Lifts.with(0, 0, 0, 0, 0, 0), 0, 0, 0, 0, 0, 1);
        Due.is("the cellar", x.ride(0), -1);
        x.trust(9);
        for (int floor = 0; floor <= 9; floor++) {
            Lifts.text(x, 0, String.valueOf(floor));
            Due.is("floor " + floor, x.ride(5), floor);
            Due.is("heard", x.heard(), floor == 9 ? 1 : 0);
        }
        LiftCredit y = Lifts.saying(Lifts.with(0), 13);
        Due.is("as was credited ahead of it", y.ride(0), 3);
        Due.is("what is heard counts next", y.ride(0), 6);
        Due.is("no day", y.count(1), 0);
    }

    @Sentence(of = "Promise 15", says = "BEYOND.")
    static void rideBeyond() {
        Twins.refused(Lifts::furnished, Due.BEYOND, x -> x.ride(-1), x -> x.ride(5), x -> x.ride(MIN), x -> x.ride(MAX));
        Twins.refused(LiftCredit::new, Due.BEYOND, x -> x.ride(0));
    }

    @Sentence(of = "Promise 16", says = "n (1 to 60) DAYS: all that is HEARD then.")
    static void daysOfOneAndSixty() {
        LiftCredit x = Lifts.threeDays();
        Due.is("one day", x.days(1), 13);
        Due.is("day", x.count(1), 1);
        Due.is("rides", x.count(2), 3);
        Due.is("60 days", x.days(60), 364);
        Due.is("day", x.count(1), 61);
        Due.is("rides", x.count(2), 183);
        LiftCredit swing = Lifts.swing();
        Due.is("59 days", swing.days(59), 6);
        LiftCredit twin = Lifts.swing();
        Due.is("60 days", twin.days(60), 0);
        swing.days(1);
        Twins.alike("59 days and one", swing, twin);
    }

    @Sentence(of = "Promise 16", says = "BEYOND.")
    static void daysBeyond() {
        Twins.refused(Lifts::furnished, Due.BEYOND,
            x -> x.days(0), x -> x.days(61), x -> x.days(-1), x -> x.days(MIN), x -> x.days(MAX));
        Twins.refused(Lifts::onTheLastDay, Due.BEYOND, x -> x.days(0), x -> x.days(61), x -> x.days(MAX));
    }

    @Sentence(of = "Promise 16", says = "STATE: DAY would be above 9999.")
    static void daysAboveTheLast() {
        Twins.refused(Lifts::onTheLastDay, Due.STATE, x -> x.days(1), x -> x.days(60));
        Twins.refused(() -> Lifts.shortOfTheLastDay(1), Due.STATE, x -> x.days(2), x -> x.days(60));
        Twins.refused(() -> Lifts.shortOfTheLastDay(59), Due.STATE, x -> x.days(60));
        LiftCredit x = Lifts.shortOfTheLastDay(59);
        Due.is("59 days to the last", x.days(59), 7);
        Due.is("day", x.count(1), 9999);
        LiftCredit y = Lifts.shortOfTheLastDay(60);
        Due.is("60 days to the last", y.days(60), 7);
        Due.is("day", y.count(1), 9999);
    }

    // ---- draws

    @Sentence(of = "Terms 3", says = "DAYS by draws: z is told (1 at first); each makes it z * 1103515245 + 12345 "
            + "(an int), and gives z >>> 8.")
    static void drawsWrap() {
        LiftCredit x = new LiftCredit();
        Due.is("1 at first", x.count(10), 1);
        x.rumours(1);
        Due.is("behind two draws", x.count(10), -1770082073);
        Due.is("a draw of a z below 0 isn't below 0", x.heard(), 2 * 729);
        int[] seeds = {0, -1, MIN, MAX, 1 << 30, -1103515245};
        int[] due = {-740551042, 288979989, 1406932606, -1858503659, 333190782, 1398692297};
        for (int i = 0; i < seeds.length; i++) {
            LiftCredit y = new LiftCredit();
            y.seed(seeds[i]);
            y.rumours(1);
            Due.is("two draws from " + seeds[i], y.count(10), due[i]);
        }
    }

    @Sentence(of = "Terms 3", says = "Each day two draws: of the FACT that is the first one's rest by 8 the second "
            + "one's rest by 3 is HEARD; then a DAY.")
    static void rumoursOfEachFactAndSaying() {
        boolean[] drawn = new boolean[24];
        int combinations = 0;
        for (int seed = 0; seed < 500 && combinations < 24; seed++) {
            int first = seed * 1103515245 + 12345;
            int fact = (first >>> 8) % 8;
            int v = ((first * 1103515245 + 12345) >>> 8) % 3;
            LiftCredit x = Lifts.hearing(new LiftCredit(), 3280);
            x.seed(seed);
            int worth = (int) Math.pow(3, fact);
            Due.is("fact " + fact + " becomes " + v, x.rumours(1), 3280 + (v - 1) * worth);
            combinations += drawn[3 * fact + v] ? 0 : 1;
            drawn[3 * fact + v] = true;
        }
        Due.is("each fact, each saying", combinations, 24);
        LiftCredit x = Lifts.saying(Lifts.with(0), 1458);
        x.trust(2);
        Due.is("the rumour is heard ahead of the day", x.rumours(1), 1458);
        x = Lifts.saying(Lifts.with(0), 1);
        x.trust(1);
        Due.is("then a day", x.rumours(1), 1459);
        Due.is("day", x.count(1), 1);
    }

    @Sentence(of = "Promise 17", says = "n (1 to 40) DAYS by draws: likewise.")
    static void rumoursOfOneAndForty() {
        LiftCredit x = Lifts.furnished();
        int last = 0;
        for (int i = 0; i < 40; i++) {
            last = x.rumours(1);
        }
        LiftCredit twin = Lifts.furnished();
        Due.is("40 days", twin.rumours(40), last);
        Due.is("day", twin.count(1), 44);
        Due.is("rides", twin.count(2), 21 + 200);
        Twins.alike("40 times one day", x, twin);
    }

    @Sentence(of = "Promise 17", says = "BEYOND.")
    static void rumoursBeyond() {
        Twins.refused(Lifts::furnished, Due.BEYOND,
            x -> x.rumours(0), x -> x.rumours(41), x -> x.rumours(-1), x -> x.rumours(MIN), x -> x.rumours(MAX));
        Twins.refused(Lifts::onTheLastDay, Due.BEYOND, x -> x.rumours(0), x -> x.rumours(41), x -> x.rumours(MAX));
    }

    @Sentence(of = "Promise 17", says = "STATE: DAY would be above 9999.")
    static void rumoursAboveTheLast() {
        Twins.refused(Lifts::onTheLastDay, Due.STATE, x -> x.rumours(1), x -> x.rumours(40));
        Twins.refused(() -> Lifts.shortOfTheLastDay(1), Due.STATE, x -> x.rumours(2), x -> x.rumours(40));
        Twins.refused(() -> Lifts.shortOfTheLastDay(39), Due.STATE, x -> x.rumours(40));
        LiftCredit x = Lifts.shortOfTheLastDay(39);
        Due.holds("39 days to the last", x.rumours(39) >= 0);
        Due.is("day", x.count(1), 9999);
        LiftCredit y = Lifts.shortOfTheLastDay(40);
        Due.holds("40 days to the last", y.rumours(40) >= 0);
        Due.is("day", y.count(1), 9999);
    }
}
