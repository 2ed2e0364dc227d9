import java.math.BigInteger;
import java.util.ArrayList;
import java.util.List;
import java.util.TreeMap;

/**
 * The document once more, as slow and as near to its words as can be, with lists and the whole library. It takes the
 * calls in the same way, but for due(), which ModelTest checks against fund().
 */
final class Model {
    static final int NONE = -1, BAD = -2, STATE = -3, FULL = -4;
    static final long NO = -4611686018427387904L;
    private static final int OPEN = Integer.MAX_VALUE;

    record Home(int stair, int rooms, int share) { }

    static final class Member {
        int family, came, went = OPEN, waits = NONE;
        long debt;
        final TreeMap<Integer, Boolean> wishes = new TreeMap<>();
    }

    static final class Right {
        int kind, home, from, to = OPEN;
        List<Integer> members;

        boolean on(int day) {
            return from <= day && day < to;
        }
    }

    static final class Text {
        String source;
        int day = NONE, hangs = NONE;
        boolean isCarried, isVoid;
        final TreeMap<Integer, Boolean> votes = new TreeMap<>();

        long said(boolean what) {
            return votes.values().stream().filter(v -> v == what).count();
        }
    }

    int today;
    final List<Home> homes = new ArrayList<>();
    final List<Member> members = new ArrayList<>();
    final List<Right> rights = new ArrayList<>();
    final List<Text> texts = new ArrayList<>();
    final List<Text> carried = new ArrayList<>();
    final List<TreeMap<Integer, Integer>> costs = new ArrayList<>();
    final TreeMap<Integer, List<Integer>> offers = new TreeMap<>();
    final int[] years = new int[40];
    int yield;
    final StringBuilder tape = new StringBuilder();
    int faultKind, faultPlace = NONE;
    final Object[] trays = new Object[6];
    int status;

    Model() {
        Text first = new Text();
        first.source = "points waits ; may 1 ; votes 1 ; costs 1 ;";
        first.isCarried = true;
        first.day = 0;
        texts.add(first);
        carried.add(first);
    }

    int day(int n) {
        if (n < 0 || n > 10000) return BAD;
        if (today + n > 1000000) return FULL;
        return today += n;
    }

    int home(int stair, int rooms, int share) {
        if (stair < 0 || stair > 3 || rooms < 1 || rooms > 6 || share < 1 || share > 100) return BAD;
        if (homes.size() == 12) return FULL;
        homes.add(new Home(stair, rooms, share));
        return homes.size() - 1;
    }

    int member(int family) {
        if (family < 1 || family > 9) return BAD;
        if (members.size() == 24) return FULL;
        Member m = new Member();
        m.family = family;
        m.came = today;
        members.add(m);
        return members.size() - 1;
    }

    private static boolean in(List<?> list, int n) {
        return n >= 0 && n < list.size();
    }

    private boolean here(int member) {
        return members.get(member).came <= today && today < members.get(member).went;
    }

    int family(int member, int n) {
        if (!in(members, member) || n < 1 || n > 9) return BAD;
        if (!here(member)) return STATE;
        int was = members.get(member).family;
        members.get(member).family = n;
        return was;
    }

    private Right ofHome(int home, int day) {
        return rights.stream().filter(r -> r.kind != 2 && r.home == home && r.on(day)).reduce(null, Model::only);
    }

    private Right ofMember(int member, int day) {
        return rights.stream().filter(r -> r.kind != 2 && r.members.contains(member) && r.on(day)).reduce(null, Model::only);
    }

    /** At most one of a home, and of a member, is in force on a day. */
    private static Right only(Right none, Right one) {
        if (none != null) throw new IllegalStateException("two rights are in force");
        return one;
    }

    private int add(int kind, int home, int from, Integer... of) {
        Right r = new Right();
        r.kind = kind;
        r.home = home;
        r.from = from;
        r.members = List.of(of);
        rights.add(r);
        return rights.size() - 1;
    }

    int right(int kind, int home, int member, int days) {
        if (kind < 0 || kind > 2 || !in(homes, home) || !in(members, member)) return BAD;
        if (kind == 0 ? days != 0 : days < 1 || days > 10000) return BAD;
        if (!here(member)) return STATE;
        Right held = ofMember(member, today);
        if (kind != 2 && (ofHome(home, today) != null || offers.containsKey(home) || held != null)) return STATE;
        if (kind == 2 && held != null && held.home == home) return STATE;
        if (rights.size() == 60) return FULL;
        int number = add(kind, home, today, member);
        if (kind != 0) rights.get(number).to = today + days;
        return number;
    }

    int join(int right, int member) {
        if (!in(rights, right) || !in(members, member)) return BAD;
        Right r = rights.get(right);
        if (r.kind != 0 || !r.on(today) || !here(member) || ofMember(member, today) != null) return STATE;
        if (rights.size() == 60) return FULL;
        r.to = today;
        return add(3, r.home, today, r.members.get(0), member);
    }

    int end(int right) {
        if (!in(rights, right)) return BAD;
        if (!rights.get(right).on(today)) return STATE;
        rights.get(right).to = today;
        return 1;
    }

    private Integer otherOf(Right r, int member) {
        return r.members.get(0) == member ? r.members.get(1) : r.members.get(0);
    }

    int leave(int member) {
        if (!in(members, member)) return BAD;
        if (!here(member)) return STATE;
        Right held = ofMember(member, today);
        boolean isJoint = held != null && held.kind == 3;
        if (isJoint && rights.size() == 60) return FULL;
        for (Right r : rights) {
            if (r.members.contains(member) && r.on(today)) r.to = today;
        }
        Member m = members.get(member);
        m.went = today;
        m.waits = NONE;
        m.wishes.clear();
        return isJoint ? add(4, held.home, today, otherOf(held, member)) : NONE;
    }

    int rightTold(int right, int what) {
        if (!in(rights, right) || what < 0 || what > 6) return BAD;
        Right r = rights.get(right);
        int second = r.members.size() > 1 ? r.members.get(1) : NONE;
        return new int[] {r.kind, r.home, r.members.get(0), second, r.from, r.to == OPEN ? NONE : r.to,
            r.on(today) ? 1 : 0}[what];
    }

    int inForce(int what, int who, int day) {
        if (what < 0 || what > 1 || !in(what == 0 ? homes : members, who) || day < 0 || day > 2000000) return BAD;
        return rights.indexOf(what == 0 ? ofHome(who, day) : ofMember(who, day));
    }

    private boolean empty(int home) {
        return ofHome(home, today) == null;
    }

    int homeTold(int home, int what) {
        if (!in(homes, home) || what < 0 || what > 6) return BAD;
        Home h = homes.get(home);
        long guests = rights.stream().filter(r -> r.kind == 2 && r.home == home && r.on(today)).count();
        return new int[] {h.stair, h.rooms, h.share, empty(home) ? 1 : 0, offeredTo(home), offers.containsKey(home) ? 1 : 0,
            (int) guests}[what];
    }

    int memberTold(int member, int what) {
        if (!in(members, member) || what < 0 || what > 6) return BAD;
        Member m = members.get(member);
        Right held = ofMember(member, today);
        return new int[] {m.family, m.came, m.went == OPEN ? NONE : m.went, m.waits, held == null ? NONE : held.home,
            m.wishes.size(), here(member) ? 1 : 0}[what];
    }

    int feed(int n, long bytes) {
        if (n < 1 || n > 8) return BAD;
        if (tape.length() + n > 400) return FULL;
        for (int i = 0; i < n; i++) {
            tape.append((char) (bytes >> 8 * i & 255));
        }
        return tape.length();
    }

    int propose() {
        if (texts.size() == 12) return FULL;
        Grammar g = new Grammar(tape.toString());
        tape.setLength(0);
        faultKind = g.faultKind();
        faultPlace = g.faultPlace();
        if (faultKind != 0) return -10 - faultKind;
        Text t = new Text();
        t.source = g.source;
        texts.add(t);
        return texts.size() - 1;
    }

    int fault(int what) {
        return what == 0 ? faultKind : what == 1 ? faultPlace : BAD;
    }

    int vote(int member, int text, boolean yes) {
        if (!in(members, member) || !in(texts, text)) return BAD;
        Text t = texts.get(text);
        if (t.isCarried || t.isVoid || !here(member) || t.votes.containsKey(member)) return STATE;
        t.votes.put(member, yes);
        return (int) t.said(true);
    }

    private Text law(int day) {
        Text law = null;
        for (Text t : carried) {
            if (!t.isVoid && t.day <= day) law = t;
        }
        return law;
    }

    int carry(int text, int from) {
        if (!in(texts, text) || from < today || from > 2000000) return BAD;
        Text t = texts.get(text);
        if (t.isCarried || t.isVoid) return STATE;
        TreeMap<String, Long> names = new TreeMap<>();
        names.put("members", (long) count(2));
        if (t.said(true) < Grammar.worth(law(today).source, "votes", names)) return 0;
        t.hangs = texts.indexOf(law(today));
        t.isCarried = true;
        t.day = from;
        carried.add(t);
        return 1;
    }

    int tear(int text) {
        if (!in(texts, text) || text == 0) return BAD;
        if (texts.get(text).isVoid) return STATE;
        return tearAll(text);
    }

    private int tearAll(int text) {
        if (texts.get(text).isVoid) return 0;
        texts.get(text).isVoid = true;
        int torn = 1;
        for (int i = 0; i < texts.size(); i++) {
            if (texts.get(i).hangs == text) torn += tearAll(i);
        }
        return torn;
    }

    int textTold(int text, int what) {
        if (!in(texts, text) || what < 0 || what > 6) return BAD;
        Text t = texts.get(text);
        return new int[] {t.isCarried ? 1 : 0, t.isVoid ? 1 : 0, t.day, (int) t.said(true), (int) t.said(false), t.hangs,
            t.source.length()}[what];
    }

    int text(int day) {
        return day < 0 || day > 2000000 ? BAD : texts.indexOf(law(day));
    }

    int wait(int member) {
        if (!in(members, member)) return BAD;
        if (!here(member)) return STATE;
        if (members.get(member).waits != NONE) return 0;
        members.get(member).waits = today;
        return 1;
    }

    private void nameHome(TreeMap<String, Long> names, int home) {
        names.put("rooms", (long) homes.get(home).rooms);
        names.put("stair", (long) homes.get(home).stair);
        names.put("share", (long) homes.get(home).share);
    }

    long points(int member, int home, int what) {
        if (!in(members, member) || !in(homes, home) || what < 0 || what > 1) return NO;
        Member m = members.get(member);
        TreeMap<String, Long> names = new TreeMap<>();
        nameHome(names, home);
        names.put("waits", m.waits == NONE ? 0L : today - m.waits);
        names.put("joined", (long) today - m.came);
        names.put("family", (long) m.family);
        names.put("debt", m.debt);
        return Grammar.worth(law(today).source, what == 0 ? "points" : "may", names);
    }

    private List<Integer> orderOf(int home) {
        List<Integer> order = new ArrayList<>();
        for (int i = 0; i < members.size(); i++) {
            if (members.get(i).waits != NONE && points(i, home, 1) != 0) order.add(i);
        }
        order.sort((a, b) -> {
            int byPoints = Long.compare(points(b, home, 0), points(a, home, 0));
            int byDays = Integer.compare(members.get(a).waits, members.get(b).waits);
            return byPoints != 0 ? byPoints : byDays != 0 ? byDays : Integer.compare(a, b);
        });
        return order;
    }

    int order(int home, int i) {
        if (!in(homes, home)) return BAD;
        List<Integer> order = orderOf(home);
        return in(order, i) ? order.get(i) : NONE;
    }

    private int offeredTo(int home) {
        if (!offers.containsKey(home)) return NONE;
        return orderOf(home).stream().filter(m -> !offers.get(home).contains(m)).findFirst().orElse(NONE);
    }

    int offer(int home) {
        if (!in(homes, home)) return BAD;
        if (!empty(home) || offers.containsKey(home)) return STATE;
        offers.put(home, new ArrayList<>());
        return offeredTo(home);
    }

    int take(int home, boolean yes) {
        if (!in(homes, home)) return BAD;
        int who = offeredTo(home);
        if (who == NONE) return STATE;
        if (!yes) {
            offers.get(home).add(who);
            return offeredTo(home);
        }
        Right held = ofMember(who, today);
        boolean isJoint = held != null && held.kind == 3;
        if (rights.size() + (isJoint ? 2 : 1) > 60) return FULL;
        if (held != null) held.to = today;
        if (isJoint) add(4, held.home, today, otherOf(held, who));
        members.get(who).waits = NONE;
        offers.remove(home);
        return add(0, home, today, who);
    }

    int withdraw(int home) {
        if (!in(homes, home)) return BAD;
        return offers.remove(home) == null ? STATE : 1;
    }

    int wish(int member, int home, boolean is) {
        if (!in(members, member) || !in(homes, home)) return BAD;
        if (!here(member)) return STATE;
        TreeMap<Integer, Boolean> wishes = members.get(member).wishes;
        boolean was = is ? wishes.put(home, true) != null : wishes.remove(home) != null;
        return was == is ? 0 : 1;
    }

    private Changes theChange() {
        Changes all = new Changes(homes.size());
        for (int home = 0; home < homes.size(); home++) {
            if (empty(home) && !offers.containsKey(home)) all.free.add(home);
        }
        for (int i = 0; i < members.size(); i++) {
            Right r = ofMember(i, today);
            if (r != null && r.kind != 1 && r.to == OPEN && r.members.get(0) == i) {
                all.add(i, r.home, new ArrayList<>(members.get(i).wishes.keySet()));
            }
        }
        all.find();
        return all;
    }

    int best() {
        return theChange().best.size();
    }

    int moves(int member) {
        return in(members, member) ? theChange().best.getOrDefault(member, NONE) : BAD;
    }

    int change() {
        TreeMap<Integer, Integer> best = theChange().best;
        if (rights.size() + best.size() > 60) return FULL;
        for (int member : best.keySet()) {
            Right r = ofMember(member, today);
            r.to = today;
            add(r.kind, best.get(member), today, r.members.toArray(new Integer[0]));
            members.get(member).wishes.clear();
        }
        return best.size();
    }

    int cost(int coins) {
        if (coins < 1 || coins > 1000000) return BAD;
        TreeMap<Integer, BigInteger> weights = new TreeMap<>();
        BigInteger total = BigInteger.ZERO;
        for (int home = 0; home < homes.size(); home++) {
            Right r = ofHome(home, today);
            if (r == null) continue;
            TreeMap<String, Long> names = new TreeMap<>();
            nameHome(names, home);
            names.put("family", (long) members.get(r.members.get(0)).family);
            long weight = Grammar.worth(law(today).source, "costs", names);
            weights.put(home, BigInteger.valueOf(weight < 0 ? 0 : weight > 1000000 ? 1000000 : weight));
            total = total.add(weights.get(home));
        }
        if (total.signum() == 0) return STATE;
        if (costs.size() == 30) return FULL;
        costs.add(parts(coins, weights, total));
        costs.get(costs.size() - 1).forEach((home, part) -> members.get(ofHome(home, today).members.get(0)).debt += part);
        return costs.size() - 1;
    }

    private static TreeMap<Integer, Integer> parts(int coins, TreeMap<Integer, BigInteger> weights, BigInteger total) {
        TreeMap<Integer, Integer> parts = new TreeMap<>();
        TreeMap<Integer, BigInteger> lacks = new TreeMap<>();
        int left = coins;
        for (int home : weights.keySet()) {
            BigInteger[] cut = weights.get(home).multiply(BigInteger.valueOf(coins)).divideAndRemainder(total);
            parts.put(home, cut[0].intValue());
            lacks.put(home, cut[1]);
            left -= cut[0].intValue();
        }
        List<Integer> byLack = new ArrayList<>(lacks.keySet());
        byLack.sort((a, b) -> lacks.get(b).compareTo(lacks.get(a)));
        for (int i = 0; i < left; i++) {
            parts.merge(byLack.get(i), 1, Integer::sum);
        }
        return parts;
    }

    int parted(int cost, int home) {
        return in(costs, cost) && in(homes, home) ? costs.get(cost).getOrDefault(home, 0) : BAD;
    }

    long pay(int member, int n) {
        if (!in(members, member) || n < 0 || n > 1000000) return NO;
        return members.get(member).debt -= n;
    }

    int year(int y, int n) {
        if (y < 0 || y > 39 || n < 0 || n > 1000000) return BAD;
        int was = years[y];
        years[y] = n;
        return was;
    }

    int gain(int n) {
        if (n < 0 || n > 100) return BAD;
        int was = yield;
        yield = n;
        return was;
    }

    long fund(int y, int n) {
        if (y < 0 || y > 39 || n < 0 || n > 1000000) return NO;
        BigInteger coins = BigInteger.ZERO;
        for (int i = 0; i <= y; i++) {
            coins = coins.add(BigInteger.valueOf(n));
            coins = coins.add(coins.multiply(BigInteger.valueOf(yield)).divide(BigInteger.valueOf(1000)));
            coins = coins.subtract(BigInteger.valueOf(years[i]));
        }
        return coins.longValueExact();
    }

    int count(int what) {
        if (what < 0 || what > 11) return BAD;
        int here = 0;
        for (int i = 0; i < members.size(); i++) {
            here += here(i) ? 1 : 0;
        }
        return new int[] {homes.size(), members.size(), here, rights.size(),
            (int) rights.stream().filter(r -> r.on(today)).count(), texts.size(), costs.size(), tape.length(), today,
            (int) members.stream().filter(m -> m.waits != NONE).count(), offers.size(), yield}[what];
    }

    private int refuse(int why) {
        status = why;
        return -1;
    }

    int put(int tray, int what, int n) {
        if (tray < 0 || tray > 5 || what < 0 || what > 4 || what == 1 && !in(rights, n)) return refuse(1);
        boolean[] truths = new boolean[homes.size()];
        for (int i = 0; i < truths.length; i++) {
            truths[i] = empty(i);
        }
        status = 0;
        trays[tray] = switch (what) {
            case 1 -> rights.get(n);
            case 2 -> law(today).source.getBytes(java.nio.charset.StandardCharsets.ISO_8859_1);
            case 3 -> members.stream().mapToLong(m -> m.debt).toArray();
            case 4 -> truths;
            default -> null;
        };
        return 1;
    }

    /** By what the machine itself throws: what the host does, done indeed. */
    int forge(int tray, int what, int n) {
        if (tray < 0 || tray > 5 || what < 0 || what > 8 || n < -100 || n > 100) return refuse(1);
        try {
            int answer = forged(trays[tray], what, n);
            status = 0;
            return answer;
        } catch (NullPointerException e) {
            return refuse(10);
        } catch (ClassCastException e) {
            return refuse(11);
        } catch (IndexOutOfBoundsException e) {
            return refuse(12);
        } catch (NegativeArraySizeException e) {
            return refuse(13);
        } catch (ArrayStoreException e) {
            return refuse(14);
        } catch (ArithmeticException e) {
            return refuse(15);
        }
    }

    private static class Kind0 {
        final int home;

        Kind0(int home) {
            this.home = home;
        }
    }

    private static class Kind1 extends Kind0 {
        Kind1(int home) {
            super(home);
        }
    }

    private static final class Kind2 extends Kind1 {
        Kind2(int home) {
            super(home);
        }
    }

    private static final class Kind3 extends Kind0 {
        Kind3(int home) {
            super(home);
        }
    }

    private static final class Kind4 extends Kind0 {
        Kind4(int home) {
            super(home);
        }
    }

    private static Object asThing(Object held) {
        if (!(held instanceof Right r)) return held;
        return switch (r.kind) {
            case 0 -> new Kind0(r.home);
            case 1 -> new Kind1(r.home);
            case 2 -> new Kind2(r.home);
            case 3 -> new Kind3(r.home);
            default -> new Kind4(r.home);
        };
    }

    private static int forged(Object held, int what, int n) {
        Object thing = asThing(held);
        switch (what) {
            case 0:
                return switch (Math.floorMod(n, 5)) {
                    case 0 -> ((Kind0) thing).home;
                    case 1 -> ((Kind1) thing).home;
                    case 2 -> ((Kind2) thing).home;
                    case 3 -> ((Kind3) thing).home;
                    default -> ((Kind4) thing).home;
                };
            case 1: return ((byte[]) thing)[n];
            case 2: return (int) ((long[]) thing)[n];
            case 3: return ((boolean[]) thing)[n] ? 1 : 0;
            case 4: return new byte[n].length;
            case 5: {
                byte[] row = new byte[9];
                System.arraycopy((byte[]) thing, 1, row, n, n);
                int sum = 0;
                for (byte b : row) {
                    sum += b;
                }
                return sum;
            }
            case 6: {
                Object[] row = new Kind1[1];
                row[0] = thing;
                return thing == null ? 0 : ((Kind1) row[0]).home;
            }
            case 7: return 1000 / n;
            default: {
                RuntimeException none = null;
                throw none;
            }
        }
    }

    int status() {
        return status;
    }
}
