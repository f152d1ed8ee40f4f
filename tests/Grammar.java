import java.util.LinkedHashSet;
import java.util.Map;
import java.util.Set;

/**
 * The document's rules for TEXTS, taken as rules: all that may still be to come is kept as rows of
 * signs and names of rules, a sign at a time. It knows no order in which signs bind.
 */
final class Grammar {
    /** "T: A { | A }" is T, which is A and what may follow it, and so on; # is the end of what ! or ( opened. */
    private static final Map<Character, String[]> RULES = Map.ofEntries(
        Map.entry('T', new String[] {"AU"}), Map.entry('U', new String[] {"", "|AU"}),
        Map.entry('A', new String[] {"BC"}), Map.entry('C', new String[] {"", "&BC"}),
        Map.entry('B', new String[] {"S", "S<S", "S=S", "S>S"}),
        Map.entry('S', new String[] {"PR"}), Map.entry('R', new String[] {"", "+PR", "-PR"}),
        Map.entry('P', new String[] {"QO"}), Map.entry('O', new String[] {"", "*QO", "/QO", "%QO"}),
        Map.entry('Q', new String[] {"9", "99", "999", "9999", "N", "!Q#", "(T)#"}));
    private static final int MOST_OPEN = 5;

    private Grammar() {
    }

    /** The place of the first sign with which no TEXT goes on, how many there are, or -1 with no FAULT. */
    static int fault(String text, String names) {
        Set<String> ways = new LinkedHashSet<>();
        unfold("T", 0, ways);
        for (int i = 0; i < text.length(); i++) {
            Set<String> next = new LinkedHashSet<>();
            for (String way : ways) {
                if (!way.substring(1).isEmpty() && fits(way.charAt(1), text.charAt(i), names)) {
                    int open = way.charAt(0) + ("!(".indexOf(way.charAt(1)) >= 0 ? 1 : 0);
                    unfold(way.substring(2), open, next);
                }
            }
            if (next.isEmpty()) {
                return i;
            }
            ways = next;
        }
        return ways.stream().anyMatch(way -> way.length() == 1) ? -1 : text.length();
    }

    private static boolean fits(char due, char sign, String names) {
        switch (due) {
            case '9': return sign >= '0' && sign <= '9';
            case 'N': return names.indexOf(sign) >= 0;
            default: return sign == due;
        }
    }

    /** Until a sign stands first; how many are open stands ahead of it. */
    private static void unfold(String rest, int open, Set<String> ways) {
        char first = rest.isEmpty() ? '\0' : rest.charAt(0);
        if (first == '#') {
            unfold(rest.substring(1), open - 1, ways);
        } else if (RULES.containsKey(first)) {
            for (String rule : RULES.get(first)) {
                unfold(rule + rest.substring(1), open, ways);
            }
        } else if ("!(".indexOf(first) < 0 || open < MOST_OPEN || rest.isEmpty()) {
            ways.add((char) open + rest);
        }
    }
}
