import java.util.ArrayList;
import java.util.List;

/**
 * The document once more, as slowly and plainly as it can be told: sayings are rows of digits,
 * every search goes through all there is. It shares no code and no way of holding things with
 * the program, so that the two are wrong alike only where the document was misread.
 */
final class Model {
    private static final int[] ABOVE = {-1, 0, 0, 0, 1, 2, 3};

    private static final class Who implements Cloneable {
        int kind;
        int m;
        int[] story = new int[8];

        Who twin() {
            Who twin = new Who();
            twin.kind = kind;
            twin.m = m;
            twin.story = story.clone();
            return twin;
        }
    }

    private static final class All {
        int[] heard = new int[8];
        int world = 0;
        int trust = 3;
        List<Who> riders = new ArrayList<>();
        String[] texts = {"h*2+n-c*4", "s/k-d*2"};
        StringBuilder tape = new StringBuilder();
        int day = 0;
        int rides = 0;
        int z = 1;
        List<Integer> waiting = new ArrayList<>();

        All twin() {
            All twin = new All();
            twin.heard = heard.clone();
            twin.world = world;
            twin.trust = trust;
            for (Who who : riders) {
                twin.riders.add(who.twin());
            }
            twin.texts = texts.clone();
            twin.tape = new StringBuilder(tape);
            twin.day = day;
            twin.rides = rides;
            twin.z = z;
            twin.waiting = new ArrayList<>(waiting);
            return twin;
        }
    }

    private All all = new All();
    private All image = null;
    private int images = 0;
    private final int[] told = new int[6];
    private final int[] sheetBits = new int[4];
    private final int[][] sheetNumbers = new int[4][];
    private List<Integer> trace = new ArrayList<>();

    private int fail(int error) {
        told[-1000000000 - error]++;
        return error;
    }

    // ---- digits

    private static int[] digits(int number) {
        int[] digits = new int[8];
        for (int i = 0; i < 8; i++) {
            digits[i] = number % 3;
            number /= 3;
        }
        return digits;
    }

    private static int number(int[] digits) {
        int number = 0;
        int worth = 1;
        for (int digit : digits) {
            number += digit * worth;
            worth *= 3;
        }
        return number;
    }

    private static int longOf(int[] story) {
        int count = 0;
        for (int digit : story) {
            count += digit != 0 ? 1 : 0;
        }
        return count;
    }

    /** h, c, n. */
    private static int[] tally(int[] story, int[] heard) {
        int[] tally = new int[3];
        for (int fact = 0; fact < 8; fact++) {
            if (story[fact] != 0) {
                tally[heard[fact] == 0 ? 2 : heard[fact] == story[fact] ? 0 : 1]++;
            }
        }
        return tally;
    }

    private boolean isTrue(int[] story) {
        for (int fact = 0; fact < 8; fact++) {
            boolean so = (all.world & 1 << fact) != 0;
            if (story[fact] == 1 && !so || story[fact] == 2 && so) {
                return false;
            }
        }
        return true;
    }

    // ---- credit, floors, rides

    private int given(int use, int a, int b, int c) {
        int value = ModelText.value(all.texts[use], use == 0 ? "hcn" : "skd", a, b, c);
        return value < -99 ? -99 : value > 99 ? 99 : value;
    }

    private int credit(Who who, int[] story, int[] heard) {
        int[] t = tally(story, heard);
        int h = t[0];
        int c = t[1];
        int n = t[2];
        int v = given(0, h, c, n);
        switch (who.kind) {
            case 0: return v;
            case 1: return v > 5 ? 5 : v;
            case 2: return given(0, h, c / 2, n);
            case 3: return c == 0 ? v + 3 : v;
            case 4: return (v > 5 ? 5 : v) + who.m;
            case 5: return given(0, h, c / 2, n) + n;
            default: return (c == 0 ? v + 3 : v) - longOf(story);
        }
    }

    private int floor(Who who, int[] story, int[] heard) {
        if (longOf(story) == 0) {
            return -1;
        }
        int credit = credit(who, story, heard);
        return credit < 0 ? 0 : credit > 9 ? 9 : credit;
    }

    private int[] rideOf(Who who, int[] heard) {
        int floor = floor(who, who.story, heard);
        int[] after = heard.clone();
        for (int fact = 0; fact < 8; fact++) {
            int said = who.story[fact];
            if (said != 0 && heard[fact] == 0 && floor >= all.trust) {
                after[fact] = said;
            }
            if (said != 0 && heard[fact] == 3 - said && floor >= all.trust * 2) {
                after[fact] = 0;
            }
        }
        return after;
    }

    private int[] dayOf(int[] heard) {
        int[] after = heard;
        for (Who who : all.riders) {
            after = rideOf(who, after);
        }
        return after;
    }

    private int[] behind(int days) {
        int[] heard = all.heard;
        for (int i = 0; i < days; i++) {
            heard = dayOf(heard);
        }
        return heard;
    }

    private void passDay() {
        all.heard = dayOf(all.heard);
        all.day++;
        for (int i = 0; i < all.riders.size(); i++) {
            all.rides = all.rides == 9999 ? 9999 : all.rides + 1;
        }
    }

    private int draw() {
        all.z = all.z * 1103515245 + 12345;
        return all.z >>> 8;
    }

    private int crowdFloor(int crowd) {
        int s = 0;
        int k = 0;
        boolean said = false;
        for (int i = 0; i < all.riders.size(); i++) {
            if ((crowd & 1 << i) != 0) {
                Who who = all.riders.get(i);
                s += credit(who, who.story, all.heard);
                k++;
                said |= longOf(who.story) > 0;
            }
        }
        int d = 0;
        for (int fact = 0; fact < 8; fact++) {
            boolean so = false;
            boolean not = false;
            for (int i = 0; i < all.riders.size(); i++) {
                if ((crowd & 1 << i) != 0) {
                    so |= all.riders.get(i).story[fact] == 1;
                    not |= all.riders.get(i).story[fact] == 2;
                }
            }
            d += so && not ? 1 : 0;
        }
        int v = given(1, s, k, d);
        return !said ? -1 : v < 0 ? 0 : v > 9 ? 9 : v;
    }

    // ---- the face

    int hear(int fact, int v) {
        if (fact < 0 || fact > 7 || v < 0 || v > 2) {
            return fail(Due.BEYOND);
        }
        int was = all.heard[fact];
        all.heard = all.heard.clone();
        all.heard[fact] = v;
        return was;
    }

    int heard() {
        return number(all.heard);
    }

    int world(int set) {
        if (set < 0 || set > 255) {
            return fail(Due.BEYOND);
        }
        int was = all.world;
        all.world = set;
        return was;
    }

    int trust(int v) {
        if (v < 0 || v > 9) {
            return fail(Due.BEYOND);
        }
        int was = all.trust;
        all.trust = v;
        return was;
    }

    private boolean lacks(int rider) {
        return rider < 0 || rider >= all.riders.size();
    }

    int rider(int km) {
        if (km < 0 || km > 69) {
            return fail(Due.BEYOND);
        }
        if (all.riders.size() == 6) {
            return fail(Due.FULL);
        }
        Who who = new Who();
        who.kind = km / 10;
        who.m = km % 10;
        all.riders.add(who);
        return all.riders.size() - 1;
    }

    int ofRider(int rider, int what) {
        if (lacks(rider) || what < 0 || what > 9) {
            return fail(Due.BEYOND);
        }
        Who who = all.riders.get(rider);
        switch (what) {
            case 0: return who.kind;
            case 1: return who.m;
            case 2: return number(who.story);
            case 3: return longOf(who.story);
            case 4:
            case 5:
            case 6: return tally(who.story, all.heard)[what - 4];
            case 7: return credit(who, who.story, all.heard);
            case 8: return floor(who, who.story, all.heard);
            default: return isTrue(who.story) ? 1 : 0;
        }
    }

    int story(int rider, int number) {
        if (lacks(rider) || number < 0 || number > 6560) {
            return fail(Due.BEYOND);
        }
        int was = number(all.riders.get(rider).story);
        all.riders.get(rider).story = digits(number);
        return was;
    }

    int say(int rider, int fact, int v) {
        if (lacks(rider) || fact < 0 || fact > 7 || v < 0 || v > 2) {
            return fail(Due.BEYOND);
        }
        int was = all.riders.get(rider).story[fact];
        all.riders.get(rider).story[fact] = v;
        return was;
    }

    int become(int rider, int km) {
        if (lacks(rider) || km < 0 || km > 69) {
            return fail(Due.BEYOND);
        }
        int was = all.riders.get(rider).kind;
        all.riders.get(rider).kind = km / 10;
        all.riders.get(rider).m = km % 10;
        return was;
    }

    int as(int rider, int kind) {
        if (lacks(rider) || kind < 0 || kind > 6) {
            return fail(Due.BEYOND);
        }
        for (int k = all.riders.get(rider).kind; k >= 0; k = ABOVE[k]) {
            if (k == kind) {
                return all.riders.get(rider).m;
            }
        }
        return fail(Due.KIND);
    }

    int feed(long word, int n) {
        if (n < 1 || n > 8) {
            return fail(Due.BEYOND);
        }
        if (all.tape.length() + n > 50) {
            return fail(Due.FULL);
        }
        for (int i = 0; i < n; i++) {
            all.tape.append((char) (word & 255));
            word >>= 8;
        }
        return all.tape.length();
    }

    int text(int use) {
        if (use < 0 || use > 1) {
            return fail(Due.BEYOND);
        }
        String text = all.tape.toString();
        all.tape = new StringBuilder();
        int fault = ModelText.fault(text, use == 0 ? "hcn" : "skd");
        if (fault >= 0) {
            return -10 - fault;
        }
        all.texts[use] = text;
        return 1;
    }

    int law(int use, int a, int b, int c) {
        return use < 0 || use > 1 ? fail(Due.BEYOND) : given(use, a, b, c);
    }

    int ride(int rider) {
        if (lacks(rider)) {
            return fail(Due.BEYOND);
        }
        Who who = all.riders.get(rider);
        int floor = floor(who, who.story, all.heard);
        all.heard = rideOf(who, all.heard);
        all.rides = all.rides == 9999 ? 9999 : all.rides + 1;
        return floor;
    }

    int days(int n) {
        if (n < 1 || n > 60) {
            return fail(Due.BEYOND);
        }
        if (all.day + n > 9999) {
            return fail(Due.STATE);
        }
        for (int i = 0; i < n; i++) {
            passDay();
        }
        return heard();
    }

    int rumours(int n) {
        if (n < 1 || n > 40) {
            return fail(Due.BEYOND);
        }
        if (all.day + n > 9999) {
            return fail(Due.STATE);
        }
        for (int i = 0; i < n; i++) {
            int fact = draw() % 8;
            int v = draw() % 3;
            all.heard = all.heard.clone();
            all.heard[fact] = v;
            passDay();
        }
        return heard();
    }

    int together(int crowd) {
        if (crowd < 1 || crowd > (1 << all.riders.size()) - 1) {
            return fail(Due.BEYOND);
        }
        return crowdFloor(crowd);
    }

    int bestWith(int rider, int what) {
        if (lacks(rider) || what < 0 || what > 1) {
            return fail(Due.BEYOND);
        }
        int greatest = -2;
        for (int crowd = 1; crowd < 1 << all.riders.size(); crowd++) {
            if ((crowd & 1 << rider) != 0 && crowdFloor(crowd) > greatest) {
                greatest = crowdFloor(crowd);
            }
        }
        for (int riders = 1; riders <= 6 && what == 0; riders++) {
            for (int crowd = 1; crowd < 1 << all.riders.size(); crowd++) {
                if (Integer.bitCount(crowd) == riders && (crowd & 1 << rider) != 0
                        && crowdFloor(crowd) == greatest) {
                    return crowd;
                }
            }
        }
        return greatest;
    }

    int shortest(int rider, int f) {
        return shortestOf(rider, f, false);
    }

    int truest(int rider, int f) {
        return shortestOf(rider, f, true);
    }

    private int shortestOf(int rider, int f, boolean onlyTrue) {
        if (lacks(rider) || f < 0 || f > 9) {
            return fail(Due.BEYOND);
        }
        Who who = all.riders.get(rider);
        for (int length = 1; length <= 8; length++) {
            for (int number = 0; number < 6561; number++) {
                int[] story = digits(number);
                if (longOf(story) == length && (!onlyTrue || isTrue(story))
                        && floor(who, story, all.heard) >= f) {
                    return number;
                }
            }
        }
        return fail(Due.NONE);
    }

    int out(int rider, int f) {
        if (lacks(rider) || f < 0 || f > 9) {
            return fail(Due.BEYOND);
        }
        Who who = all.riders.get(rider);
        for (int fewest = 0; fewest <= 8; fewest++) {
            for (int set = 0; set < 256; set++) {
                int[] left = who.story.clone();
                boolean said = true;
                for (int fact = 0; fact < 8; fact++) {
                    if ((set & 1 << fact) != 0) {
                        said &= left[fact] != 0;
                        left[fact] = 0;
                    }
                }
                if (said && Integer.bitCount(set) == fewest && floor(who, left, all.heard) >= f) {
                    return set;
                }
            }
        }
        return fail(Due.NONE);
    }

    int when(int rider, int f) {
        if (lacks(rider) || f < 0 || f > 9) {
            return fail(Due.BEYOND);
        }
        Who who = all.riders.get(rider);
        for (int d = 0; d <= 60; d++) {
            if (floor(who, who.story, behind(d)) >= f) {
                return d;
            }
        }
        return fail(Due.NONE);
    }

    int still() {
        for (int d = 0; d <= 60; d++) {
            if (number(behind(d)) == number(behind(d + 1))) {
                return d;
            }
        }
        return fail(Due.NONE);
    }

    int then(int n) {
        return n < 0 || n > 60 ? fail(Due.BEYOND) : number(behind(n));
    }

    private List<int[]> ways(int sheet) {
        List<int[]> ways = new ArrayList<>();
        for (int number = 0; number < 6561; number++) {
            int[] heard = digits(number);
            boolean so = true;
            for (int i = 0; i < sheetNumbers[sheet].length && so; i++) {
                Who who = all.riders.get(i);
                so = floor(who, who.story, heard) == sheetNumbers[sheet][i];
            }
            if (so) {
                ways.add(heard);
            }
        }
        return ways;
    }

    int believed(int sheet, int what) {
        if (sheet < 0 || sheet > 3 || what < 0 || what > 1) {
            return fail(Due.BEYOND);
        }
        if (sheetNumbers[sheet] == null || sheetNumbers[sheet].length > all.riders.size()) {
            return fail(Due.NONE);
        }
        List<int[]> ways = ways(sheet);
        if (what == 0) {
            return ways.size();
        }
        return ways.isEmpty() ? fail(Due.NONE) : number(ways.get(0));
    }

    int word(int sheet, int rider, int what) {
        if (sheet < 0 || sheet > 3 || lacks(rider) || what < 0 || what > 1) {
            return fail(Due.BEYOND);
        }
        if (sheetNumbers[sheet] == null || sheetNumbers[sheet].length > all.riders.size()) {
            return fail(Due.NONE);
        }
        List<int[]> ways = ways(sheet);
        if (ways.isEmpty()) {
            return fail(Due.NONE);
        }
        int best = -1;
        int most = 0;
        for (int fact = 0; fact < 8; fact++) {
            int[] story = new int[8];
            story[fact] = 1;
            boolean[] seen = new boolean[10];
            int unlike = 0;
            for (int[] heard : ways) {
                int floor = floor(all.riders.get(rider), story, heard);
                unlike += seen[floor] ? 0 : 1;
                seen[floor] = true;
            }
            if (unlike > most) {
                most = unlike;
                best = fact;
            }
        }
        return what == 0 ? best : most;
    }

    int seed(int v) {
        int was = all.z;
        all.z = v;
        return was;
    }

    // ---- voices: a body is looked for from a kind upwards

    private static final int[][] BODIES = {
        {10, 20, 0, 0, 0, 0, 0},
        {11, 0, 30, 0, 0, 60, 0},
        {12, 0, 0, 40, 0, 0, 70},
        {13, 0, 0, 0, 50, 0, 71},
    };

    private int speak(int rider, int act, int from, int x) {
        Who who = all.riders.get(rider);
        int at = from;
        while (BODIES[act][at] == 0) {
            at = ABOVE[at];
        }
        int body = BODIES[act][at];
        if (trace.size() < 40) {
            trace.add(body);
        }
        int own = who.kind;
        int up = ABOVE[at];
        switch (body) {
            case 10: return x + rider;
            case 11: return speak(rider, 0, own, x) * 2;
            case 12: return x - who.m;
            case 13: {
                int left = speak(rider, 1, own, x);
                return left ^ speak(rider, 2, own, x);
            }
            case 20: return speak(rider, 0, up, x) * 3;
            case 30: {
                int left = speak(rider, 1, up, x);
                return left - speak(rider, 2, own, 1);
            }
            case 40: return -speak(rider, 2, up, x);
            case 50: {
                int left = speak(rider, 3, up, x);
                return left - speak(rider, 0, own, 2);
            }
            case 60: return speak(rider, 1, up, x + 1);
            case 70: return speak(rider, 2, up, x) ^ rider;
            default: {
                int left = speak(rider, 1, own, x);
                return left - speak(rider, 3, up, x);
            }
        }
    }

    int voice(int rider, int act, int x) {
        if (lacks(rider) || act < 0 || act > 3) {
            return fail(Due.BEYOND);
        }
        trace = new ArrayList<>();
        return speak(rider, act, all.riders.get(rider).kind, x);
    }

    int trace(int i) {
        return i < 0 || i >= trace.size() ? fail(Due.NONE) : trace.get(i);
    }

    // ---- sheets

    int sheet(int sheet, int bits, int n) {
        if (sheet < 0 || sheet > 3 || bits != 0 && bits != 8 && bits != 16 && bits != 32) {
            return fail(Due.BEYOND);
        }
        if (bits == 0) {
            sheetNumbers[sheet] = null;
            return 1;
        }
        if (n < 0) {
            return fail(Due.STATE);
        }
        if (n > 40) {
            return fail(Due.BEYOND);
        }
        sheetBits[sheet] = bits;
        sheetNumbers[sheet] = new int[n];
        return 1;
    }

    int put(int sheet, int i, int v) {
        if (sheet < 0 || sheet > 3) {
            return fail(Due.BEYOND);
        }
        if (sheetNumbers[sheet] == null) {
            return fail(Due.NONE);
        }
        if (i < 0 || i >= sheetNumbers[sheet].length) {
            return fail(Due.BEYOND);
        }
        int unused = 32 - sheetBits[sheet];
        sheetNumbers[sheet][i] = v << unused >> unused;
        return 1;
    }

    int move(int sheet, int i, int other, int j, int n) {
        if (sheet < 0 || sheet > 3 || other < 0 || other > 3) {
            return fail(Due.BEYOND);
        }
        if (sheetNumbers[sheet] == null || sheetNumbers[other] == null) {
            return fail(Due.NONE);
        }
        if (sheetBits[sheet] != sheetBits[other]) {
            return fail(Due.KIND);
        }
        int[] from = sheetNumbers[sheet].clone();
        if (n < 0 || i < 0 || j < 0 || (long) i + n > from.length
                || (long) j + n > sheetNumbers[other].length) {
            return fail(Due.BEYOND);
        }
        for (int at = 0; at < n; at++) {
            sheetNumbers[other][j + at] = from[i + at];
        }
        return n;
    }

    int stories(int sheet) {
        if (sheet < 0 || sheet > 3) {
            return fail(Due.BEYOND);
        }
        if (sheetNumbers[sheet] == null) {
            return fail(Due.NONE);
        }
        int done = 0;
        for (int number : sheetNumbers[sheet]) {
            if (number < 0 || number > 6560 || done == all.riders.size()) {
                break;
            }
            all.riders.get(done).story = digits(number);
            done++;
        }
        return done;
    }

    int judge(int sheet) {
        if (sheet < 0 || sheet > 3) {
            return fail(Due.BEYOND);
        }
        if (sheetNumbers[sheet] == null) {
            return fail(Due.NONE);
        }
        int[] row = sheetNumbers[sheet];
        for (int i = 0; i < 46; i++) {
            boolean hasRider = i < all.riders.size();
            boolean hasNumber = i < row.length;
            if (hasRider != hasNumber) {
                return i;
            }
            if (hasRider && row[i] != ofRider(i, 8)) {
                return i;
            }
        }
        return -1;
    }

    int image() {
        image = all.twin();
        images++;
        return images;
    }

    int restore() {
        if (image == null) {
            return fail(Due.NONE);
        }
        all = image.twin();
        return all.day;
    }

    int tell(int v) {
        if (all.waiting.size() == 20) {
            return fail(Due.FULL);
        }
        all.waiting.add(v);
        return all.waiting.size();
    }

    int check() {
        List<Integer> waited = all.waiting;
        all.waiting = new ArrayList<>();
        for (int i = 0; i < waited.size(); i++) {
            if (waited.get(i) != number(behind(i + 1))) {
                return 1 + i;
            }
        }
        return 0;
    }

    int count(int what) {
        switch (what) {
            case 0: return all.riders.size();
            case 1: return all.day;
            case 2: return all.rides;
            case 3: return longOf(all.heard);
            case 4: {
                int right = 0;
                for (int fact = 0; fact < 8; fact++) {
                    right += all.heard[fact] == ((all.world & 1 << fact) != 0 ? 1 : 2) ? 1 : 0;
                }
                return right;
            }
            case 5: return all.trust;
            case 6: return all.world;
            case 7: return all.tape.length();
            case 8: return all.waiting.size();
            case 9: return trace.size();
            case 10: return all.z;
            default: return fail(Due.BEYOND);
        }
    }

    int told(int k) {
        return k < 1 || k > 5 ? fail(Due.BEYOND) : told[k];
    }
}
