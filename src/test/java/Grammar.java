import java.util.ArrayList;
import java.util.List;
import java.util.Map;
import java.util.Set;
import java.util.regex.Matcher;
import java.util.regex.Pattern;

/**
 * Texts once more, in another way than the class reads them: what may stand next is told by what stands open, and an
 * E is worked out by parting its tokens at what binds least.
 */
final class Grammar {
    private static final Pattern TOKEN = Pattern.compile("[ \n]*(?:([a-z]+)|([0-9]+)|([();+*<=-]))");
    private static final Set<String> NAMES =
        Set.of("waits", "family", "rooms", "joined", "debt", "stair", "share", "members");
    private static final List<String> PARTS = List.of("points", "may", "votes", "costs");

    final String source;
    private final List<String> tokens = new ArrayList<>();
    private final List<Integer> places = new ArrayList<>();
    private int kind;
    private int place = -1;

    private int part = -1;
    private boolean wantsKey = true;
    private boolean wantsOperand;
    private boolean canBeNot;
    private boolean isCompared;
    /** What is open: ( as c or (, by whether a comparison stands ahead of it; n for not, - for -. */
    private final StringBuilder open = new StringBuilder();

    Grammar(String source) {
        this.source = source;
        scan();
        judge();
    }

    int faultKind() {
        return kind;
    }

    int faultPlace() {
        return place;
    }

    private void scan() {
        Matcher m = TOKEN.matcher(source);
        int at = 0;
        while (m.region(at, source.length()).lookingAt()) {
            int group = m.group(1) != null ? 1 : m.group(2) != null ? 2 : 3;
            tokens.add(m.group(group));
            places.add(m.start(group));
            at = m.end();
        }
        while (at < source.length() && " \n".indexOf(source.charAt(at)) >= 0) {
            at++;
        }
        // What begins no token stands as one that fits nowhere, and so does the end of the source.
        tokens.add(at < source.length() ? "?" : "");
        places.add(at);
    }

    private void judge() {
        int strange = -1;
        for (int i = 0; i < tokens.size(); i++) {
            String t = tokens.get(i);
            boolean ends = t.isEmpty() && part == 3 && wantsKey;
            if (!ends && !accepts(t)) {
                kind = 1;
                place = places.get(i);
                return;
            }
            if (strange < 0 && NAMES.contains(t) && !mayHave(PARTS.get(part), t)) {
                strange = places.get(i);
            }
        }
        if (strange >= 0) {
            kind = 2;
            place = strange;
        }
    }

    private static boolean mayHave(String part, String name) {
        return switch (part) {
            case "votes" -> name.equals("members");
            case "costs" -> Set.of("family", "rooms", "stair", "share").contains(name);
            default -> !name.equals("members");
        };
    }

    private boolean accepts(String t) {
        if (wantsKey) {
            part++;
            wantsKey = false;
            wantsOperand = true;
            canBeNot = true;
            return part < 4 && t.equals(PARTS.get(part));
        }
        return wantsOperand ? acceptsOperand(t) : acceptsJoining(t);
    }

    private boolean acceptsOperand(String t) {
        if (NAMES.contains(t) || t.matches("[0-9]{1,6}")) {
            close('-');
            wantsOperand = false;
            return true;
        }
        boolean opens = t.equals("(") || t.equals("-") || t.equals("not") && canBeNot;
        if (!opens || open.length() == 8) {
            return false;
        }
        canBeNot = !t.equals("-");
        if (t.equals("(")) {
            open.append(isCompared ? 'c' : '(');
            isCompared = false;
        } else {
            open.append(t.charAt(0));
        }
        return true;
    }

    private boolean acceptsJoining(String t) {
        wantsOperand = true;
        canBeNot = false;
        switch (t) {
            case "+", "-", "*":
                return true;
            case "<", "=":
                boolean isFirst = !isCompared;
                isCompared = true;
                return isFirst;
            case "and", "or":
                close('n');
                isCompared = false;
                canBeNot = true;
                return true;
            case ")":
                close('n');
                return closeBracket();
            case ";":
                close('n');
                isCompared = false;
                wantsKey = true;
                return open.length() == 0;
            default:
                return false;
        }
    }

    private boolean closeBracket() {
        if (open.length() == 0) {
            return false;
        }
        isCompared = open.charAt(open.length() - 1) == 'c';
        open.setLength(open.length() - 1);
        close('-');
        wantsOperand = false;
        return true;
    }

    private void close(char what) {
        while (open.length() > 0 && open.charAt(open.length() - 1) == what) {
            open.setLength(open.length() - 1);
        }
    }

    /** What a part of a text without a fault is worth. */
    static long worth(String source, String part, Map<String, Long> names) {
        List<String> all = new Grammar(source).tokens;
        int from = all.indexOf(part) + 1;
        int to = from;
        while (!all.get(to).equals(";")) {
            to++;
        }
        return worth(all.subList(from, to), names);
    }

    private static long worth(List<String> e, Map<String, Long> names) {
        int at;
        if ((at = lastOutside(e, "or")) >= 0) {
            return left(e, at, names) != 0 | right(e, at, names) != 0 ? 1 : 0;
        }
        if ((at = lastOutside(e, "and")) >= 0) {
            return left(e, at, names) != 0 & right(e, at, names) != 0 ? 1 : 0;
        }
        if (e.get(0).equals("not")) {
            return right(e, 0, names) == 0 ? 1 : 0;
        }
        if ((at = lastOutside(e, "<", "=")) >= 0) {
            int compared = Long.compare(left(e, at, names), right(e, at, names));
            return e.get(at).equals("<") ? (compared < 0 ? 1 : 0) : (compared == 0 ? 1 : 0);
        }
        if ((at = lastOutside(e, "+", "-")) >= 0) {
            long sign = e.get(at).equals("+") ? 1 : -1;
            return left(e, at, names) + sign * right(e, at, names);
        }
        if ((at = lastOutside(e, "*")) >= 0) {
            return left(e, at, names) * right(e, at, names);
        }
        if (e.get(0).equals("-")) {
            return -right(e, 0, names);
        }
        if (e.get(0).equals("(")) {
            return worth(e.subList(1, e.size() - 1), names);
        }
        return NAMES.contains(e.get(0)) ? names.get(e.get(0)) : Long.parseLong(e.get(0));
    }

    private static long left(List<String> e, int at, Map<String, Long> names) {
        return worth(e.subList(0, at), names);
    }

    private static long right(List<String> e, int at, Map<String, Long> names) {
        return worth(e.subList(at + 1, e.size()), names);
    }

    /** The last of these that joins two sides and is in no bracket, or -1. */
    private static int lastOutside(List<String> e, String... which) {
        int depth = 0;
        for (int i = e.size() - 1; i > 0; i--) {
            depth += e.get(i).equals(")") ? 1 : e.get(i).equals("(") ? -1 : 0;
            String ahead = e.get(i - 1);
            boolean joins = ahead.equals(")") || Character.isDigit(ahead.charAt(0)) || NAMES.contains(ahead);
            if (depth == 0 && joins && List.of(which).contains(e.get(i))) {
                return i;
            }
        }
        return -1;
    }
}
