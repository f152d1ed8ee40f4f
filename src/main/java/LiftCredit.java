import java.util.Arrays;

/** A lift that takes its riders as high as it credits them: the document's promises 1 to 41. */
public final class LiftCredit {
    private static final int LOW = -1000000000;
    private static final int BEYOND = 1;
    private static final int NONE = 2;
    private static final int STATE = 3;
    private static final int FULL = 4;
    private static final int KIND = 5;

    private static final int FACTS = 8;
    private static final int EVERY_FACT = 255;
    private static final int STORIES = 6561;
    private static final int TOP_FLOOR = 9;
    private static final int CELLAR = -1;
    private static final int MOST_RIDERS = 6;
    private static final int MOST_DAYS = 9999;
    private static final int MOST_RIDES = 9999;
    private static final int MOST_BYTES = 50;
    private static final int MOST_WAITING = 20;
    private static final int DAYS_AHEAD = 60;
    private static final int SHEETS = 4;
    private static final int MOST_NUMBERS = 40;
    private static final int MOST_BODIES = 40;

    private final Lift lift = new Lift();
    private Lift kept = null;
    private int images = 0;
    private final Sheet[] sheets = new Sheet[SHEETS];
    private final Trace trace = new Trace();
    private final int[] errors = new int[KIND + 1];

    public LiftCredit() {
        for (int i = 0; i < SHEETS; i++) {
            sheets[i] = new Sheet();
        }
    }

    // ---- facts, riders

    public int hear(int fact, int v) {
        if (!isFact(fact) || !isSaying(v)) {
            return error(BEYOND);
        }
        int was = sayingOf(lift.heard, fact);
        lift.heard = withSaying(lift.heard, fact, v);
        return was;
    }

    public int heard() {
        return numberOf(lift.heard);
    }

    public int world(int set) {
        if (set < 0 || set > EVERY_FACT) {
            return error(BEYOND);
        }
        int was = lift.world;
        lift.world = set;
        return was;
    }

    public int trust(int v) {
        if (v < 0 || v > TOP_FLOOR) {
            return error(BEYOND);
        }
        int was = lift.trust;
        lift.trust = v;
        return was;
    }

    public int rider(int km) {
        if (!isKindWithNumber(km)) {
            return error(BEYOND);
        }
        int number = lift.riderCount;
        if (number >= MOST_RIDERS) {
            return error(FULL);
        }
        lift.riders[number] = riderOf(km, number);
        lift.stories[number] = 0;
        lift.riderCount++;
        return number;
    }

    public int ofRider(int rider, int what) {
        if (!isRider(rider) || what < 0 || what > 9) {
            return error(BEYOND);
        }
        int story = lift.stories[rider];
        switch (what) {
            case 0: return lift.riders[rider].kind;
            case 1: return lift.riders[rider].m;
            case 2: return numberOf(story);
            case 3: return Integer.bitCount(story);
            case 4: return asHeard(story, lift.heard);
            case 5: return otherWay(story, lift.heard);
            case 6: return unheard(story, lift.heard);
            case 7: return lift.credit(rider, story, lift.heard);
            case 8: return lift.floor(rider, story, lift.heard);
            default: return isWithin(story, truth(lift.world)) ? 1 : 0;
        }
    }

    public int story(int rider, int number) {
        if (!isRider(rider) || !isStory(number)) {
            return error(BEYOND);
        }
        int was = numberOf(lift.stories[rider]);
        lift.stories[rider] = sayingsOf(number);
        return was;
    }

    public int say(int rider, int fact, int v) {
        if (!isRider(rider) || !isFact(fact) || !isSaying(v)) {
            return error(BEYOND);
        }
        int was = sayingOf(lift.stories[rider], fact);
        lift.stories[rider] = withSaying(lift.stories[rider], fact, v);
        return was;
    }

    public int become(int rider, int km) {
        if (!isRider(rider) || !isKindWithNumber(km)) {
            return error(BEYOND);
        }
        int was = lift.riders[rider].kind;
        lift.riders[rider] = riderOf(km, rider);
        return was;
    }

    public int as(int rider, int kind) {
        if (!isRider(rider) || kind < 0 || kind > 6) {
            return error(BEYOND);
        }
        Rider who = lift.riders[rider];
        return isOfKind(who, kind) ? who.m : error(KIND);
    }

    // ---- texts

    public int feed(long word, int n) {
        if (n < 1 || n > 8) {
            return error(BEYOND);
        }
        if (lift.tapeLength + n > MOST_BYTES) {
            return error(FULL);
        }
        for (int i = 0; i < n; i++) {
            lift.tape[lift.tapeLength] = (byte) (word >> 8 * i);
            lift.tapeLength++;
        }
        return lift.tapeLength;
    }

    public int text(int use) {
        if (!isUse(use)) {
            return error(BEYOND);
        }
        int fault = lift.takeTape(use);
        return fault < 0 ? 1 : -10 - fault;
    }

    public int law(int use, int a, int b, int c) {
        if (!isUse(use)) {
            return error(BEYOND);
        }
        return lift.lawOf(use).gives(a, b, c);
    }

    // ---- rides

    public int ride(int rider) {
        if (!isRider(rider)) {
            return error(BEYOND);
        }
        int floor = lift.floor(rider, lift.stories[rider], lift.heard);
        lift.heard = lift.afterRide(rider, lift.heard);
        lift.countRides(1);
        return floor;
    }

    public int days(int n) {
        if (n < 1 || n > 60) {
            return error(BEYOND);
        }
        if (lift.day + n > MOST_DAYS) {
            return error(STATE);
        }
        for (int i = 0; i < n; i++) {
            lift.heard = lift.afterDay(lift.heard);
        }
        lift.countDays(n);
        return numberOf(lift.heard);
    }

    public int rumours(int n) {
        if (n < 1 || n > 40) {
            return error(BEYOND);
        }
        if (lift.day + n > MOST_DAYS) {
            return error(STATE);
        }
        for (int i = 0; i < n; i++) {
            int fact = lift.draw() % FACTS;
            int v = lift.draw() % 3;
            lift.heard = lift.afterDay(withSaying(lift.heard, fact, v));
        }
        lift.countDays(n);
        return numberOf(lift.heard);
    }

    // ---- what would be

    public int together(int crowd) {
        if (crowd < 1 || crowd >= 1 << lift.riderCount) {
            return error(BEYOND);
        }
        return lift.crowdFloor(crowd);
    }

    public int bestWith(int rider, int what) {
        if (!isRider(rider) || what < 0 || what > 1) {
            return error(BEYOND);
        }
        int best = 0;
        int bestFloor = CELLAR - 1;
        // The crowds come from the least set on, so of equal ones the first stays.
        for (int crowd = 1; crowd < 1 << lift.riderCount; crowd++) {
            if ((crowd >> rider & 1) == 0) {
                continue;
            }
            int floor = lift.crowdFloor(crowd);
            boolean fewer = Integer.bitCount(crowd) < Integer.bitCount(best);
            if (floor > bestFloor || floor == bestFloor && fewer) {
                best = crowd;
                bestFloor = floor;
            }
        }
        return what == 0 ? best : bestFloor;
    }

    public int shortest(int rider, int f) {
        if (!isRider(rider) || !isGoal(f)) {
            return error(BEYOND);
        }
        return shortestOf(rider, f, bothWays(EVERY_FACT));
    }

    public int truest(int rider, int f) {
        if (!isRider(rider) || !isGoal(f)) {
            return error(BEYOND);
        }
        return shortestOf(rider, f, truth(lift.world));
    }

    public int out(int rider, int f) {
        if (!isRider(rider) || !isGoal(f)) {
            return error(BEYOND);
        }
        int story = lift.stories[rider];
        int best = -1;
        int fewest = FACTS + 1;
        for (int set = 0; set <= EVERY_FACT; set++) {
            int left = story & ~bothWays(set);
            if (isWithin(set, factsOf(story)) && Integer.bitCount(set) < fewest
                    && lift.floor(rider, left, lift.heard) >= f) {
                best = set;
                fewest = Integer.bitCount(set);
            }
        }
        return best < 0 ? error(NONE) : best;
    }

    public int when(int rider, int f) {
        if (!isRider(rider) || !isGoal(f)) {
            return error(BEYOND);
        }
        int heard = lift.heard;
        for (int behind = 0; behind <= DAYS_AHEAD; behind++) {
            if (lift.floor(rider, lift.stories[rider], heard) >= f) {
                return behind;
            }
            heard = lift.afterDay(heard);
        }
        return error(NONE);
    }

    public int still() {
        int heard = lift.heard;
        for (int behind = 0; behind <= DAYS_AHEAD; behind++) {
            int later = lift.afterDay(heard);
            if (later == heard) {
                return behind;
            }
            heard = later;
        }
        return error(NONE);
    }

    public int then(int n) {
        if (n < 0 || n > DAYS_AHEAD) {
            return error(BEYOND);
        }
        int heard = lift.heard;
        for (int i = 0; i < n; i++) {
            heard = lift.afterDay(heard);
        }
        return numberOf(heard);
    }

    public int believed(int sheet, int what) {
        if (!isSheet(sheet) || what < 0 || what > 1) {
            return error(BEYOND);
        }
        Sheet told = sheets[sheet];
        if (!tellsFloors(told)) {
            return error(NONE);
        }
        int ways = 0;
        int least = -1;
        int heard = 0;
        for (int number = 0; number < STORIES; number++) {
            if (lift.hasFloors(told, heard)) {
                ways++;
                least = least < 0 ? number : least;
            }
            heard = next(heard);
        }
        if (what == 0) {
            return ways;
        }
        return least < 0 ? error(NONE) : least;
    }

    public int word(int sheet, int rider, int what) {
        if (!isSheet(sheet) || !isRider(rider) || what < 0 || what > 1) {
            return error(BEYOND);
        }
        Sheet told = sheets[sheet];
        if (!tellsFloors(told)) {
            return error(NONE);
        }
        // A lone saying's FLOOR asks only what is HEARD of that one FACT, so it's
        // enough to know which of the three occurs in some way.
        int said = 0;
        int unsaid = 0;
        int heard = 0;
        for (int number = 0; number < STORIES; number++) {
            if (lift.hasFloors(told, heard)) {
                said |= heard;
                unsaid |= EVERY_FACT & ~factsOf(heard);
            }
            heard = next(heard);
        }
        if (said == 0 && unsaid == 0) {
            return error(NONE);
        }
        return bestWord(rider, said, unsaid, what);
    }

    // ---- draws, voices, sheets, images, what is told

    public int seed(int v) {
        int was = lift.z;
        lift.z = v;
        return was;
    }

    public int voice(int rider, int act, int x) {
        if (!isRider(rider) || act < 0 || act > 3) {
            return error(BEYOND);
        }
        Rider who = lift.riders[rider];
        trace.length = 0;
        switch (act) {
            case 0: return who.says(trace, x);
            case 1: return who.rises(trace, x);
            case 2: return who.doubts(trace, x);
            default: return who.tells(trace, x);
        }
    }

    public int trace(int i) {
        return i < 0 || i >= trace.length ? error(NONE) : trace.bodies[i];
    }

    public int sheet(int sheet, int bits, int n) {
        if (!isSheet(sheet) || bits != 0 && bits != 8 && bits != 16 && bits != 32) {
            return error(BEYOND);
        }
        if (bits != 0 && n < 0) {
            return error(STATE);
        }
        if (bits != 0 && n > MOST_NUMBERS) {
            return error(BEYOND);
        }
        sheets[sheet].renew(bits, n);
        return 1;
    }

    public int put(int sheet, int i, int v) {
        if (!isSheet(sheet)) {
            return error(BEYOND);
        }
        Sheet row = sheets[sheet];
        if (row.isMissing()) {
            return error(NONE);
        }
        if (i < 0 || i >= row.length) {
            return error(BEYOND);
        }
        row.numbers[i] = row.cut(v);
        return 1;
    }

    public int move(int sheet, int i, int other, int j, int n) {
        if (!isSheet(sheet) || !isSheet(other)) {
            return error(BEYOND);
        }
        Sheet from = sheets[sheet];
        Sheet to = sheets[other];
        if (from.isMissing() || to.isMissing()) {
            return error(NONE);
        }
        if (from.bits != to.bits) {
            return error(KIND);
        }
        if (!from.holds(i, n) || !to.holds(j, n)) {
            return error(BEYOND);
        }
        System.arraycopy(from.numbers, i, to.numbers, j, n);
        return n;
    }

    public int stories(int sheet) {
        if (!isSheet(sheet)) {
            return error(BEYOND);
        }
        Sheet row = sheets[sheet];
        if (row.isMissing()) {
            return error(NONE);
        }
        int i = 0;
        while (i < row.length && i < lift.riderCount && isStory(row.numbers[i])) {
            lift.stories[i] = sayingsOf(row.numbers[i]);
            i++;
        }
        return i;
    }

    public int judge(int sheet) {
        if (!isSheet(sheet)) {
            return error(BEYOND);
        }
        Sheet row = sheets[sheet];
        if (row.isMissing()) {
            return error(NONE);
        }
        int i = 0;
        while (i < row.length && i < lift.riderCount
                && row.numbers[i] == lift.floor(i, lift.stories[i], lift.heard)) {
            i++;
        }
        return i == row.length && i == lift.riderCount ? -1 : i;
    }

    public int image() {
        if (kept == null) {
            kept = new Lift();
        }
        kept.copy(lift);
        images++;
        return images;
    }

    public int restore() {
        if (kept == null) {
            return error(NONE);
        }
        lift.copy(kept);
        return lift.day;
    }

    public int tell(int v) {
        if (lift.waitingCount >= MOST_WAITING) {
            return error(FULL);
        }
        lift.waiting[lift.waitingCount] = v;
        lift.waitingCount++;
        return lift.waitingCount;
    }

    public int check() {
        int count = lift.waitingCount;
        lift.waitingCount = 0;
        int heard = lift.heard;
        for (int i = 0; i < count; i++) {
            heard = lift.afterDay(heard);
            if (lift.waiting[i] != numberOf(heard)) {
                return 1 + i;
            }
        }
        return 0;
    }

    public int count(int what) {
        switch (what) {
            case 0: return lift.riderCount;
            case 1: return lift.day;
            case 2: return lift.rides;
            case 3: return Integer.bitCount(lift.heard);
            case 4: return Integer.bitCount(lift.heard & truth(lift.world));
            case 5: return lift.trust;
            case 6: return lift.world;
            case 7: return lift.tapeLength;
            case 8: return lift.waitingCount;
            case 9: return trace.length;
            case 10: return lift.z;
            default: return error(BEYOND);
        }
    }

    public int told(int k) {
        return k < BEYOND || k > KIND ? error(BEYOND) : errors[k];
    }

    // ---- errors, and what numbers may be

    private int error(int k) {
        errors[k]++;
        return LOW - k;
    }

    private boolean isRider(int rider) {
        return rider >= 0 && rider < lift.riderCount;
    }

    private static boolean isFact(int fact) {
        return fact >= 0 && fact < FACTS;
    }

    private static boolean isSaying(int v) {
        return v >= 0 && v <= 2;
    }

    private static boolean isStory(int number) {
        return number >= 0 && number < STORIES;
    }

    private static boolean isKindWithNumber(int km) {
        return km >= 0 && km <= 69;
    }

    private static boolean isUse(int use) {
        return use == 0 || use == 1;
    }

    private static boolean isGoal(int f) {
        return f >= 0 && f <= TOP_FLOOR;
    }

    private static boolean isSheet(int sheet) {
        return sheet >= 0 && sheet < SHEETS;
    }

    private boolean tellsFloors(Sheet told) {
        return !told.isMissing() && told.length <= lift.riderCount;
    }

    // ---- what would be, worked out

    /** The least long STORY to f or more that keeps within the allowed SAYINGS. */
    private int shortestOf(int rider, int f, int allowed) {
        int best = -1;
        int bestLong = FACTS + 1;
        int story = 0;
        for (int number = 0; number < STORIES; number++) {
            if (Integer.bitCount(story) < bestLong && isWithin(story, allowed)
                    && lift.floor(rider, story, lift.heard) >= f) {
                best = number;
                bestLong = Integer.bitCount(story);
            }
            story = next(story);
        }
        return best < 0 ? error(NONE) : best;
    }

    private int bestWord(int rider, int said, int unsaid, int what) {
        int best = 0;
        int most = 0;
        for (int fact = 0; fact < FACTS; fact++) {
            int floors = unlikeFloors(rider, fact, said, unsaid);
            if (floors > most) {
                best = fact;
                most = floors;
            }
        }
        return what == 0 ? best : most;
    }

    private int unlikeFloors(int rider, int fact, int said, int unsaid) {
        int story = 1 << fact;
        int opposite = turned(story);
        int floors = 0;
        if ((unsaid & story) != 0) {
            floors |= 2 << lift.floor(rider, story, 0);
        }
        if ((said & story) != 0) {
            floors |= 2 << lift.floor(rider, story, story);
        }
        if ((said & opposite) != 0) {
            floors |= 2 << lift.floor(rider, story, opposite);
        }
        return Integer.bitCount(floors);
    }

    // ---- sayings: what a STORY says, or what is HEARD. An int holds them as two sets
    // of FACTS (so: bits 0 to 7; not so: bits 8 to 15), for two to be compared at once.

    private static int sayingOf(int sayings, int fact) {
        return (sayings >> fact & 1) + 2 * (sayings >> FACTS + fact & 1);
    }

    private static int withSaying(int sayings, int fact, int v) {
        int others = sayings & ~bothWays(1 << fact);
        if (v == 0) {
            return others;
        }
        return v == 1 ? others | 1 << fact : others | 1 << FACTS + fact;
    }

    private static int numberOf(int sayings) {
        int number = 0;
        for (int fact = FACTS - 1; fact >= 0; fact--) {
            number = number * 3 + sayingOf(sayings, fact);
        }
        return number;
    }

    private static int sayingsOf(int number) {
        int sayings = 0;
        int rest = number;
        for (int fact = 0; fact < FACTS; fact++) {
            sayings = withSaying(sayings, fact, rest % 3);
            rest /= 3;
        }
        return sayings;
    }

    /** The sayings whose number is one more; a search through all of them is quicker by it. */
    private static int next(int sayings) {
        int after = sayings;
        for (int fact = 0; fact < FACTS; fact++) {
            int so = 1 << fact;
            int not = 1 << FACTS + fact;
            if ((after & not) == 0) {
                return (after & so) == 0 ? after | so : after ^ so ^ not;
            }
            after ^= not;
        }
        return after;
    }

    private static int bothWays(int set) {
        return set | set << FACTS;
    }

    private static int factsOf(int sayings) {
        return (sayings | sayings >> FACTS) & EVERY_FACT;
    }

    private static int turned(int sayings) {
        return (sayings & EVERY_FACT) << FACTS | sayings >> FACTS & EVERY_FACT;
    }

    private static int truth(int world) {
        return world | (EVERY_FACT & ~world) << FACTS;
    }

    private static boolean isWithin(int part, int whole) {
        return (part & ~whole) == 0;
    }

    private static int asHeard(int story, int heard) {
        return Integer.bitCount(story & heard);
    }

    private static int otherWay(int story, int heard) {
        return Integer.bitCount(story & turned(heard));
    }

    private static int unheard(int story, int heard) {
        return Integer.bitCount(story & ~bothWays(factsOf(heard)));
    }

    /** Where a row of what the TEXT is worth has h, c, n (each 0 to 8). */
    private static int placeOf(int h, int c, int n) {
        return (h * (FACTS + 1) + c) * (FACTS + 1) + n;
    }

    private static int held(int value, int least, int most) {
        return Math.max(least, Math.min(most, value));
    }

    // ---- kinds

    private static Rider riderOf(int km, int number) {
        int kind = km / 10;
        int m = km % 10;
        switch (kind) {
            case 1: return new Clerk(kind, m, number);
            case 2: return new Liar(kind, m, number);
            case 3: return new Widow(kind, m, number);
            case 4: return new Inspector(kind, m, number);
            case 5: return new Poet(kind, m, number);
            case 6: return new Silent(kind, m, number);
            default: return new Rider(kind, m, number);
        }
    }

    private static boolean isOfKind(Rider rider, int kind) {
        switch (kind) {
            case 0: return true;
            case 1: return rider instanceof Clerk;
            case 2: return rider instanceof Liar;
            case 3: return rider instanceof Widow;
            case 4: return rider instanceof Inspector;
            case 5: return rider instanceof Poet;
            case 6: return rider instanceof Silent;
            default: return false;
        }
    }

    /** What a RIDER is by KIND; it never changes, so an IMAGE may share it. */
    private static class Rider {
        final int kind;
        final int m;
        final int number;

        Rider(int kind, int m, int number) {
            this.kind = kind;
            this.m = m;
            this.number = number;
        }

        /** The c that the TEXT is asked with. */
        int counted(int c) {
            return c;
        }

        /** CREDIT, where v is what the TEXT gives. */
        int credit(int v, int h, int c, int n) {
            return v;
        }

        int says(Trace trace, int x) {
            trace.begins(10);
            return x + number;
        }

        int rises(Trace trace, int x) {
            trace.begins(11);
            return says(trace, x) * 2;
        }

        int doubts(Trace trace, int x) {
            trace.begins(12);
            return x - m;
        }

        int tells(Trace trace, int x) {
            trace.begins(13);
            return rises(trace, x) ^ doubts(trace, x);
        }
    }

    private static class Clerk extends Rider {
        Clerk(int kind, int m, int number) {
            super(kind, m, number);
        }

        int credit(int v, int h, int c, int n) {
            return Math.min(5, v);
        }

        int says(Trace trace, int x) {
            trace.begins(20);
            return super.says(trace, x) * 3;
        }
    }

    private static class Liar extends Rider {
        Liar(int kind, int m, int number) {
            super(kind, m, number);
        }

        int counted(int c) {
            return c / 2;
        }

        int rises(Trace trace, int x) {
            trace.begins(30);
            return super.rises(trace, x) - doubts(trace, 1);
        }
    }

    private static class Widow extends Rider {
        Widow(int kind, int m, int number) {
            super(kind, m, number);
        }

        int credit(int v, int h, int c, int n) {
            return c == 0 ? v + 3 : v;
        }

        int doubts(Trace trace, int x) {
            trace.begins(40);
            return -super.doubts(trace, x);
        }
    }

    private static final class Inspector extends Clerk {
        Inspector(int kind, int m, int number) {
            super(kind, m, number);
        }

        int credit(int v, int h, int c, int n) {
            return super.credit(v, h, c, n) + m;
        }

        int tells(Trace trace, int x) {
            trace.begins(50);
            return super.tells(trace, x) - says(trace, 2);
        }
    }

    private static final class Poet extends Liar {
        Poet(int kind, int m, int number) {
            super(kind, m, number);
        }

        int credit(int v, int h, int c, int n) {
            return super.credit(v, h, c, n) + n;
        }

        int rises(Trace trace, int x) {
            trace.begins(60);
            return super.rises(trace, x + 1);
        }
    }

    private static final class Silent extends Widow {
        Silent(int kind, int m, int number) {
            super(kind, m, number);
        }

        int credit(int v, int h, int c, int n) {
            return super.credit(v, h, c, n) - (h + c + n);
        }

        int doubts(Trace trace, int x) {
            trace.begins(70);
            return super.doubts(trace, x) ^ number;
        }

        int tells(Trace trace, int x) {
            trace.begins(71);
            return rises(trace, x) - super.tells(trace, x);
        }
    }

    private static final class Trace {
        final int[] bodies = new int[MOST_BODIES];
        int length = 0;

        void begins(int body) {
            if (length < MOST_BODIES) {
                bodies[length] = body;
                length++;
            }
        }
    }

    // ---- sheets

    private static final class Sheet {
        final int[] numbers = new int[MOST_NUMBERS];
        int bits = 0;
        int length = 0;

        boolean isMissing() {
            return bits == 0;
        }

        void renew(int newBits, int n) {
            Arrays.fill(numbers, 0);
            bits = newBits;
            length = held(n, 0, MOST_NUMBERS);
        }

        /** The lowest bits of v; they carry a sign, as a FLOOR of -1 asks for. */
        int cut(int v) {
            if (bits == 8) {
                return (byte) v;
            }
            return bits == 16 ? (short) v : v;
        }

        boolean holds(int from, int n) {
            return from >= 0 && n >= 0 && n <= length && from <= length - n;
        }
    }

    // ---- texts

    /** What a USE gives: a TEXT that stands, worked out while it is read. */
    private static final class Law {
        private static final int MOST_OPEN = 5;
        private static final int MOST_DIGITS = 4;
        private static final int LEAST_GIVEN = -99;
        private static final int MOST_GIVEN = 99;

        private final String names;
        private final byte[] text = new byte[MOST_BYTES];
        private int length = 0;

        // The reading under way.
        private byte[] row = text;
        private int end = 0;
        private int place = 0;
        private boolean faulty = false;
        private int first = 0;
        private int second = 0;
        private int third = 0;

        /** The names are three signs; the TEXT is what the USE gives without another. */
        Law(String names, String plain) {
            this.names = names;
            length = Math.min(plain.length(), MOST_BYTES);
            for (int i = 0; i < length; i++) {
                text[i] = (byte) plain.charAt(i);
            }
        }

        void copy(Law other) {
            System.arraycopy(other.text, 0, text, 0, MOST_BYTES);
            length = other.length;
        }

        int gives(int a, int b, int c) {
            first = a;
            second = b;
            third = c;
            return held(read(text, length), LEAST_GIVEN, MOST_GIVEN);
        }

        /** Takes a TEXT in place of its own: -1; or leaves it so: the FAULT. */
        int take(byte[] bytes, int count) {
            read(bytes, count);
            if (faulty) {
                return place;
            }
            length = Math.min(end, MOST_BYTES);
            System.arraycopy(bytes, 0, text, 0, length);
            return -1;
        }

        private int read(byte[] bytes, int count) {
            row = bytes;
            end = Math.min(count, bytes.length);
            place = 0;
            faulty = false;
            int value = either(0);
            return place < end ? fail() : value;
        }

        /** Nothing is read beyond a FAULT: all that is open finds the TEXT at its end there. */
        private int fail() {
            faulty = true;
            end = place;
            return 0;
        }

        private int either(int open) {
            int value = both(open);
            while (place < end && row[place] == '|') {
                place++;
                int other = both(open);
                value = value != 0 || other != 0 ? 1 : 0;
            }
            return value;
        }

        private int both(int open) {
            int value = compared(open);
            while (place < end && row[place] == '&') {
                place++;
                int other = compared(open);
                value = value != 0 && other != 0 ? 1 : 0;
            }
            return value;
        }

        private int compared(int open) {
            int value = sum(open);
            if (place >= end) {
                return value;
            }
            int sign = row[place];
            if (sign != '<' && sign != '=' && sign != '>') {
                return value;
            }
            place++;
            int other = sum(open);
            boolean so = sign == '<' ? value < other : sign == '=' ? value == other : value > other;
            return so ? 1 : 0;
        }

        private int sum(int open) {
            int value = product(open);
            while (place < end && (row[place] == '+' || row[place] == '-')) {
                int sign = row[place];
                place++;
                int other = product(open);
                value = sign == '+' ? value + other : value - other;
            }
            return value;
        }

        private int product(int open) {
            int value = part(open);
            while (place < end && (row[place] == '*' || row[place] == '/' || row[place] == '%')) {
                int sign = row[place];
                place++;
                int other = part(open);
                if (sign == '*') {
                    value *= other;
                } else if (other == 0) {
                    value = 0;
                } else {
                    value = sign == '/' ? value / other : value % other;
                }
            }
            return value;
        }

        private int part(int open) {
            if (place >= end) {
                return fail();
            }
            int sign = row[place];
            if (isDigit(sign)) {
                return number();
            }
            if (sign != '!' && sign != '(') {
                return name(sign);
            }
            if (open >= MOST_OPEN) {
                return fail();
            }
            place++;
            if (sign == '!') {
                return part(open + 1) == 0 ? 1 : 0;
            }
            int value = either(open + 1);
            if (place >= end || row[place] != ')') {
                return fail();
            }
            place++;
            return value;
        }

        private int number() {
            int value = 0;
            for (int i = 0; i < MOST_DIGITS && place < end && isDigit(row[place]); i++) {
                value = value * 10 + row[place] - '0';
                place++;
            }
            return value;
        }

        private int name(int sign) {
            int which = names.indexOf((char) (sign & 255));
            if (which < 0) {
                return fail();
            }
            place++;
            return which == 0 ? first : which == 1 ? second : third;
        }

        private static boolean isDigit(int sign) {
            return sign >= '0' && sign <= '9';
        }
    }

    // ---- the lift: all that an IMAGE keeps

    private static final class Lift {
        int heard = 0;
        int world = 0;
        int trust = 3;
        int day = 0;
        int rides = 0;
        int z = 1;
        int riderCount = 0;
        final Rider[] riders = new Rider[MOST_RIDERS];
        final int[] stories = new int[MOST_RIDERS];
        int tapeLength = 0;
        final byte[] tape = new byte[MOST_BYTES];
        int waitingCount = 0;
        final int[] waiting = new int[MOST_WAITING];
        private final Law creditLaw = new Law("hcn", "h*2+n-c*4");
        private final Law crowdLaw = new Law("skd", "s/k-d*2");
        private final int[] worth = new int[(FACTS + 1) * (FACTS + 1) * (FACTS + 1)];

        Lift() {
            // No place is ever empty, whoever it is that stands there.
            for (int i = 0; i < MOST_RIDERS; i++) {
                riders[i] = riderOf(0, i);
            }
            workOutWorth();
        }

        void copy(Lift other) {
            heard = other.heard;
            world = other.world;
            trust = other.trust;
            day = other.day;
            rides = other.rides;
            z = other.z;
            riderCount = other.riderCount;
            for (int i = 0; i < MOST_RIDERS; i++) {
                riders[i] = other.riders[i];
                stories[i] = other.stories[i];
            }
            tapeLength = other.tapeLength;
            System.arraycopy(other.tape, 0, tape, 0, MOST_BYTES);
            waitingCount = other.waitingCount;
            System.arraycopy(other.waiting, 0, waiting, 0, MOST_WAITING);
            creditLaw.copy(other.creditLaw);
            crowdLaw.copy(other.crowdLaw);
            System.arraycopy(other.worth, 0, worth, 0, worth.length);
        }

        Law lawOf(int use) {
            return use == 0 ? creditLaw : crowdLaw;
        }

        /** THE TAPE becomes the TEXT of a USE: -1; or doesn't: the FAULT. It is empty then. */
        int takeTape(int use) {
            int fault = lawOf(use).take(tape, tapeLength);
            tapeLength = 0;
            if (fault < 0 && use == 0) {
                workOutWorth();
            }
            return fault;
        }

        // CREDIT is asked thousands of times in one call, so the TEXT is worked out
        // ahead for all that h, c and n can be.
        private void workOutWorth() {
            for (int h = 0; h <= FACTS; h++) {
                for (int c = 0; c <= FACTS - h; c++) {
                    for (int n = 0; n <= FACTS - h - c; n++) {
                        worth[placeOf(h, c, n)] = creditLaw.gives(h, c, n);
                    }
                }
            }
        }

        int credit(int rider, int story, int heard) {
            int h = asHeard(story, heard);
            int c = otherWay(story, heard);
            int n = unheard(story, heard);
            Rider who = riders[rider];
            return who.credit(worth[placeOf(h, who.counted(c), n)], h, c, n);
        }

        int floor(int rider, int story, int heard) {
            return story == 0 ? CELLAR : held(credit(rider, story, heard), 0, TOP_FLOOR);
        }

        int crowdFloor(int crowd) {
            int credits = 0;
            int said = 0;
            for (int i = 0; i < riderCount; i++) {
                if ((crowd >> i & 1) != 0) {
                    credits += credit(i, stories[i], heard);
                    said |= stories[i];
                }
            }
            if (said == 0) {
                return CELLAR;
            }
            // A FACT that is said both ways stands in both sets of what is said.
            int disputed = Integer.bitCount(said & said >> FACTS);
            int value = crowdLaw.gives(credits, Integer.bitCount(crowd), disputed);
            return held(value, 0, TOP_FLOOR);
        }

        boolean hasFloors(Sheet told, int heard) {
            for (int i = 0; i < told.length && i < riderCount; i++) {
                if (floor(i, stories[i], heard) != told.numbers[i]) {
                    return false;
                }
            }
            return true;
        }

        /** What is HEARD when a RIDER has told its STORY to a lift that had HEARD so much. */
        int afterRide(int rider, int heard) {
            int story = stories[rider];
            int floor = floor(rider, story, heard);
            if (floor < trust) {
                return heard;
            }
            int learnt = story & ~bothWays(factsOf(heard));
            int givenUp = floor >= 2 * trust ? heard & turned(story) : 0;
            return heard & ~givenUp | learnt;
        }

        int afterDay(int heard) {
            int later = heard;
            for (int i = 0; i < riderCount; i++) {
                later = afterRide(i, later);
            }
            return later;
        }

        void countDays(int n) {
            day += n;
            countRides(n * riderCount);
        }

        void countRides(int more) {
            rides = Math.min(MOST_RIDES, rides + more);
        }

        int draw() {
            z = z * 1103515245 + 12345;
            return z >>> 8;
        }
    }
}
