/** Calls told as rows: a call's number (its place in the document's face), then its arguments. */
final class Calls {
    static final String[] NAMES = {
        "hear", "heard", "world", "trust", "rider", "ofRider", "story", "say", "become", "as", "feed",
        "text", "law", "ride", "days", "rumours", "together", "bestWith", "shortest", "truest", "out",
        "when", "still", "then", "believed", "word", "seed", "voice", "trace", "sheet", "put", "move",
        "stories", "judge", "image", "restore", "tell", "check", "count", "told",
    };

    private Calls() {
    }

    /** A call as it is written. */
    static String shown(long[] call) {
        StringBuilder shown = new StringBuilder(NAMES[(int) call[0]]).append('(');
        for (int i = 1; i < call.length; i++) {
            shown.append(i > 1 ? ", " : "").append(call[i]);
        }
        return shown.append(")").toString();
    }

    static int on(LiftCredit lift, long[] c) {
        int[] a = ints(c);
        switch (a[0]) {
            case 0: return lift.hear(a[1], a[2]);
            case 1: return lift.heard();
            case 2: return lift.world(a[1]);
            case 3: return lift.trust(a[1]);
            case 4: return lift.rider(a[1]);
            case 5: return lift.ofRider(a[1], a[2]);
            case 6: return lift.story(a[1], a[2]);
            case 7: return lift.say(a[1], a[2], a[3]);
            case 8: return lift.become(a[1], a[2]);
            case 9: return lift.as(a[1], a[2]);
            case 10: return lift.feed(c[1], a[2]);
            case 11: return lift.text(a[1]);
            case 12: return lift.law(a[1], a[2], a[3], a[4]);
            case 13: return lift.ride(a[1]);
            case 14: return lift.days(a[1]);
            case 15: return lift.rumours(a[1]);
            case 16: return lift.together(a[1]);
            case 17: return lift.bestWith(a[1], a[2]);
            case 18: return lift.shortest(a[1], a[2]);
            case 19: return lift.truest(a[1], a[2]);
            case 20: return lift.out(a[1], a[2]);
            case 21: return lift.when(a[1], a[2]);
            case 22: return lift.still();
            case 23: return lift.then(a[1]);
            case 24: return lift.believed(a[1], a[2]);
            case 25: return lift.word(a[1], a[2], a[3]);
            case 26: return lift.seed(a[1]);
            case 27: return lift.voice(a[1], a[2], a[3]);
            case 28: return lift.trace(a[1]);
            case 29: return lift.sheet(a[1], a[2], a[3]);
            case 30: return lift.put(a[1], a[2], a[3]);
            case 31: return lift.move(a[1], a[2], a[3], a[4], a[5]);
            case 32: return lift.stories(a[1]);
            case 33: return lift.judge(a[1]);
            case 34: return lift.image();
            case 35: return lift.restore();
            case 36: return lift.tell(a[1]);
            case 37: return lift.check();
            case 38: return lift.count(a[1]);
            default: return lift.told(a[1]);
        }
    }

    static int on(Model model, long[] c) {
        int[] a = ints(c);
        switch (a[0]) {
            case 0: return model.hear(a[1], a[2]);
            case 1: return model.heard();
            case 2: return model.world(a[1]);
            case 3: return model.trust(a[1]);
            case 4: return model.rider(a[1]);
            case 5: return model.ofRider(a[1], a[2]);
            case 6: return model.story(a[1], a[2]);
            case 7: return model.say(a[1], a[2], a[3]);
            case 8: return model.become(a[1], a[2]);
            case 9: return model.as(a[1], a[2]);
            case 10: return model.feed(c[1], a[2]);
            case 11: return model.text(a[1]);
            case 12: return model.law(a[1], a[2], a[3], a[4]);
            case 13: return model.ride(a[1]);
            case 14: return model.days(a[1]);
            case 15: return model.rumours(a[1]);
            case 16: return model.together(a[1]);
            case 17: return model.bestWith(a[1], a[2]);
            case 18: return model.shortest(a[1], a[2]);
            case 19: return model.truest(a[1], a[2]);
            case 20: return model.out(a[1], a[2]);
            case 21: return model.when(a[1], a[2]);
            case 22: return model.still();
            case 23: return model.then(a[1]);
            case 24: return model.believed(a[1], a[2]);
            case 25: return model.word(a[1], a[2], a[3]);
            case 26: return model.seed(a[1]);
            case 27: return model.voice(a[1], a[2], a[3]);
            case 28: return model.trace(a[1]);
            case 29: return model.sheet(a[1], a[2], a[3]);
            case 30: return model.put(a[1], a[2], a[3]);
            case 31: return model.move(a[1], a[2], a[3], a[4], a[5]);
            case 32: return model.stories(a[1]);
            case 33: return model.judge(a[1]);
            case 34: return model.image();
            case 35: return model.restore();
            case 36: return model.tell(a[1]);
            case 37: return model.check();
            case 38: return model.count(a[1]);
            default: return model.told(a[1]);
        }
    }

    private static int[] ints(long[] call) {
        int[] ints = new int[6];
        for (int i = 0; i < call.length; i++) {
            ints[i] = (int) call[i];
        }
        return ints;
    }
}
