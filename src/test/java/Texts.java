import java.util.ArrayList;
import java.util.List;
import java.util.Random;

/** Makes texts by chance: most without a fault, some with one. */
final class Texts {
    private static final List<String> APPLICANT = List.of("waits", "family", "rooms", "joined", "debt", "stair", "share");
    private static final List<String> PAYER = List.of("family", "rooms", "stair", "share");
    private static final List<String> VOTER = List.of("members");

    private final Random random;

    Texts(Random random) {
        this.random = random;
    }

    String any() {
        StringBuilder text = new StringBuilder();
        text.append("points").append(blank(true)).append(either(APPLICANT, 0, 3)).append(';');
        text.append(blank(false)).append("may ").append(random.nextInt(3) == 0 ? either(APPLICANT, 0, 3) : "1").append(';');
        text.append(blank(false)).append("votes ").append(votes()).append(';');
        text.append("costs ").append(random.nextInt(2) == 0 ? "rooms*share+family" : either(PAYER, 0, 2)).append(';');
        text.append(blank(false));
        return text.length() <= 400 ? text.toString() : any();
    }

    /** A text in which something is left out, doubled or put in. */
    String spoilt() {
        StringBuilder text = new StringBuilder(any());
        String bits = "()();;+-*<= \n0123456789azAZ~\0\u00ff";
        List<String> words = List.of("not ", "and ", "or ", "points ", "members ", "waits ", "((((((((", "--------",
            "not not not ", "1234567", "families", "abcdefghi");
        for (int i = random.nextInt(3); i >= 0; i--) {
            int at = random.nextInt(Math.max(1, text.length()));
            switch (random.nextInt(4)) {
                case 0: text.delete(at, at + 1); break;
                case 1: text.insert(at, bits.charAt(random.nextInt(bits.length()))); break;
                case 2: text.insert(at, words.get(random.nextInt(words.size()))); break;
                default: text.setLength(at); break;
            }
        }
        if (text.length() > 400) {
            text.setLength(400);
        }
        return text.toString();
    }

    /** A text that may have names that its part must not have. */
    String strange() {
        List<String> all = new ArrayList<>(APPLICANT);
        all.addAll(VOTER);
        String text = "points " + either(random.nextBoolean() ? APPLICANT : all, 0, 2) + ";\nmay " + one(all, 0, 1)
            + "; votes " + sum(random.nextBoolean() ? VOTER : all, 0, 1) + " ;costs " + sum(all, 0, 1) + ";";
        return text.length() <= 400 ? text : strange();
    }

    private String votes() {
        String[] some = {"0", "1", "1", "members - 2", "members * 2 < 9", "- 1", "2 < members"};
        return random.nextInt(3) == 0 ? either(VOTER, 0, 2) : some[random.nextInt(some.length)];
    }

    private String blank(boolean atLeastOne) {
        String[] some = {" ", "\n", "  ", ""};
        return some[random.nextInt(atLeastOne ? 3 : 4)];
    }

    /** open is how many of ( not - are open; size how much may come. */
    private String either(List<String> names, int open, int size) {
        String e = both(names, open, size);
        for (int i = random.nextInt(4); i > 2; i--) {
            e += " or " + both(names, open, size);
        }
        return e;
    }

    private String both(List<String> names, int open, int size) {
        String e = negated(names, open, size);
        for (int i = random.nextInt(4); i > 2; i--) {
            e += " and " + negated(names, open, size);
        }
        return e;
    }

    private String negated(List<String> names, int open, int size) {
        if (open < 8 && random.nextInt(6) == 0) {
            return "not " + negated(names, open + 1, size);
        }
        String e = sum(names, open, size);
        return random.nextInt(4) == 0 ? e + blank(false) + "<=".charAt(random.nextInt(2)) + sum(names, open, size) : e;
    }

    private String sum(List<String> names, int open, int size) {
        String e = term(names, open, size);
        for (int i = random.nextInt(4); i > 1; i--) {
            e += blank(false) + "+-".charAt(random.nextInt(2)) + blank(false) + term(names, open, size);
        }
        return e;
    }

    private String term(List<String> names, int open, int size) {
        String e = one(names, open, size);
        for (int i = random.nextInt(4); i > 2; i--) {
            e += "*" + one(names, open, size);
        }
        return e;
    }

    private String one(List<String> names, int open, int size) {
        int what = random.nextInt(10);
        if (what == 0 && open < 8) {
            return "-" + blank(false) + one(names, open + 1, size);
        }
        if (what < 4 && open < 8 && size > 0) {
            return "(" + either(names, open + 1, size - 1) + blank(false) + ")";
        }
        if (what < 8) {
            return names.get(random.nextInt(names.size()));
        }
        int digits = random.nextInt(7);
        return String.valueOf(random.nextInt((int) Math.pow(10, digits)));
    }
}
