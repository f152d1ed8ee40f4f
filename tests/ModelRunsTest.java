import java.util.ArrayDeque;
import java.util.Deque;
import java.util.Map;
import java.util.Random;
import java.util.TreeMap;

/**
 * Runs of 512 calls, the same on the program and on the model, each answer compared. The draws are
 * seeded with the run's number, so that every run of the test is the same. Arguments: how many
 * runs, and the first one's number.
 */
final class ModelRunsTest {
    private static final int CALLS = 512;

    private final Random random;
    private final LiftCredit lift = new LiftCredit();
    private final Model model = new Model();
    private final Deque<long[]> planned = new ArrayDeque<>();
    private final StringBuilder story = new StringBuilder();

    /** How often each call answered each ERROR, or none, over all runs. */
    private static final Map<String, Integer> seen = new TreeMap<>();

    private ModelRunsTest(int run) {
        random = new Random(run * 7919L + 5);
    }

    public static void main(String[] arguments) {
        int runs = arguments.length > 0 ? Integer.parseInt(arguments[0]) : 80;
        int first = arguments.length > 1 ? Integer.parseInt(arguments[1]) : 0;
        for (int run = first; run < first + runs; run++) {
            if (!new ModelRunsTest(run).agrees(run)) {
                break;
            }
        }
        for (String name : Calls.NAMES) {
            Due.holds(name + " is called, and answers no ERROR once", seen.containsKey(name + " fine"));
        }
        if (arguments.length > 0) {
            System.out.println(seen);
        }
        Due.verdict();
    }

    private boolean agrees(int run) {
        for (int i = 0; i < CALLS; i++) {
            if (planned.isEmpty()) {
                plan(i);
            }
            long[] call = planned.pop();
            String told = Calls.shown(call);
            int got = Calls.on(lift, call);
            int want = Calls.on(model, call);
            String kind = want < -1000000000 && want >= -1000000005 ? " error " + (-1000000000 - want) : " fine";
            seen.merge(Calls.NAMES[(int) call[0]] + kind, 1, Integer::sum);
            story.append(told).append(" -> ").append(want).append('\n');
            Due.is("run " + run + ", call " + i + ": " + told, got, want);
            if (got != want) {
                System.out.println(story);
                return false;
            }
        }
        return true;
    }

    // ---- what is called next

    private void plan(int i) {
        if (i == 0) {
            for (int riders = random.nextInt(7); riders > 0; riders--) {
                add(4, random.nextInt(70));
            }
        }
        int choice = random.nextInt(100);
        if (choice < 6) {
            planText();
        } else if (choice < 12) {
            planSheet();
        } else if (choice < 15) {
            planWaiting();
        } else {
            planOne(random.nextInt(Calls.NAMES.length));
        }
    }

    private void add(long... call) {
        planned.add(call);
    }

    private void planText() {
        int use = random.nextInt(2);
        StringBuilder text = new StringBuilder();
        write(text, use == 0 ? "hcn" : "skd", random.nextInt(5));
        if (text.length() > 50) {
            text.setLength(50);
        }
        if (random.nextInt(3) == 0 && text.length() > 0) {
            String signs = "hcnskd0123456789+-*/%<=>&|!()x ";
            text.setCharAt(random.nextInt(text.length()), signs.charAt(random.nextInt(signs.length())));
        }
        for (int i = 0; i < text.length();) {
            int bytes = Math.min(1 + random.nextInt(8), text.length() - i);
            long word = random.nextLong();
            for (int at = bytes - 1; at >= 0; at--) {
                word = word << 8 | text.charAt(i + at);
            }
            add(10, word, bytes);
            i += bytes;
        }
        add(11, random.nextInt(8) == 0 ? pick(-1, 2) : use);
        add(12, use, random.nextInt(9), random.nextInt(9), random.nextInt(9));
    }

    private void write(StringBuilder text, String names, int depth) {
        int parts = 1 + random.nextInt(4);
        String signs = random.nextInt(3) == 0 ? "+-*/%<=>&|" : "+-*/%";
        for (int i = 0; i < parts; i++) {
            if (i > 0) {
                text.append(signs.charAt(random.nextInt(signs.length())));
            }
            int choice = random.nextInt(8);
            if (choice == 0 && depth > 0) {
                text.append('(');
                write(text, names, depth - 1);
                text.append(')');
            } else if (choice == 1 && depth > 0) {
                text.append('!').append(names.charAt(random.nextInt(3)));
            } else if (choice < 4) {
                text.append(random.nextInt(random.nextInt(4) == 0 ? 10000 : 10));
            } else {
                text.append(names.charAt(random.nextInt(3)));
            }
        }
    }

    private void planSheet() {
        int sheet = random.nextInt(4);
        int riders = model.count(0);
        int numbers = Math.max(0, riders - random.nextInt(3) + random.nextInt(2));
        boolean floors = random.nextBoolean();
        add(29, sheet, floors ? 8 : 16, numbers);
        int way = random.nextInt(6561);
        for (int i = 0; i < numbers; i++) {
            if (!floors) {
                add(30, sheet, i, random.nextInt(7000) - 100);
            } else if (i < riders && random.nextInt(3) > 0) {
                add(30, sheet, i, model.ofRider(i, 8));
            } else {
                add(30, sheet, i, random.nextInt(11) - 1);
            }
        }
        if (!floors) {
            add(32, sheet);
            return;
        }
        add(33, sheet);
        add(24, sheet, 0);
        add(24, sheet, 1);
        if (riders > 0) {
            add(25, sheet, way % riders, 0);
            add(25, sheet, way % riders, 1);
        }
    }

    private void planWaiting() {
        int numbers = random.nextInt(5);
        for (int i = 1; i <= numbers; i++) {
            add(36, random.nextInt(9) == 0 ? random.nextInt(6561) : model.then(i));
        }
        add(37);
    }

    private long pick(long... from) {
        return from[random.nextInt(from.length)];
    }

    private int below(int bound) {
        return random.nextInt(12) == 0 ? (int) pick(-1, bound, bound + 1, Integer.MAX_VALUE, Integer.MIN_VALUE)
                : random.nextInt(bound);
    }

    private int someRider() {
        return below(Math.max(1, model.count(0)));
    }

    private void planOne(int call) {
        switch (call) {
            case 0: add(0, below(8), below(3)); break;
            case 2: add(2, below(256)); break;
            case 3: add(3, random.nextInt(3) > 0 ? random.nextInt(4) : below(10)); break;
            case 4: add(4, below(70)); break;
            case 5: add(5, someRider(), below(10)); break;
            case 6: add(6, someRider(), below(6561)); break;
            case 7: add(7, someRider(), below(8), below(3)); break;
            case 8: add(8, someRider(), below(70)); break;
            case 9: add(9, someRider(), below(7)); break;
            case 10: add(10, random.nextLong(), below(9)); break;
            case 11: add(11, below(2)); break;
            case 12: add(12, below(2), anyInt(), anyInt(), anyInt()); break;
            case 13: add(13, someRider()); break;
            case 14: add(14, random.nextInt(4) > 0 ? 1 + random.nextInt(3) : below(62)); break;
            case 15: add(15, random.nextInt(4) > 0 ? 1 + random.nextInt(3) : below(42)); break;
            case 16: add(16, below(1 << model.count(0))); break;
            case 17: add(17, someRider(), below(2)); break;
            case 18:
            case 19:
            case 20:
            case 21: add(call, someRider(), below(10)); break;
            case 23: add(23, below(61)); break;
            case 24: add(24, below(4), below(2)); break;
            case 25: add(25, below(4), someRider(), below(2)); break;
            case 26: add(26, anyInt()); break;
            case 27: add(27, someRider(), below(4), anyInt()); break;
            case 28: add(28, below(10)); break;
            case 29: add(29, below(4), pick(0, 8, 16, 32, 8, 16, 32, 24, 7, -8), below(41)); break;
            case 30: add(30, below(4), below(8), anyInt()); break;
            case 31: add(31, below(4), below(6), below(4), below(6), below(6)); break;
            case 32:
            case 33: add(call, below(4)); break;
            case 36: add(36, below(6561)); break;
            case 38: add(38, below(11)); break;
            case 39: add(39, random.nextInt(6) == 0 ? below(6) : 1 + random.nextInt(5)); break;
            default: add(call); break;
        }
    }

    private int anyInt() {
        switch (random.nextInt(4)) {
            case 0: return random.nextInt();
            case 1: return (int) pick(0, -1, Integer.MAX_VALUE, Integer.MIN_VALUE, 128, 255, 32768, -129);
            default: return random.nextInt(40) - 20;
        }
    }
}
