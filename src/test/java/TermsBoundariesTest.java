import java.util.List;
import java.util.function.LongSupplier;
import java.util.function.ToLongFunction;

/** The sentences of "Terms", but for the reading of TEXTS, each with a test of its own. */
public final class TermsBoundariesTest {
    private static final int NONE = HousingSociety.NONE, BAD = HousingSociety.BAD, STATE = HousingSociety.STATE,
            FULL = HousingSociety.FULL;
    private static final long NO = HousingSociety.NO;

    private static Sentences s;

    public static void main(String[] args) throws Exception {
        s = new Sentences(args);
        calls();
        numbers();
        members();
        refusals();
        rights();
        rightsHeld();
        oneRightADay();
        order();
        offers();
        changes();
        theChange();
        costs();
        costsLeft();
        fund();
        trays();
        status();
        s.finish("TermsBoundariesTest", "Terms 0", "Terms 1", "Terms 3", "Terms 4", "Terms 5");
    }

    private static void calls() {
        s.test("What it is", "An object is used for at most 512 calls after it has been made; what later calls answer is free.", () -> {
            HousingSociety x = new HousingSociety();
            for (int call = 1; call <= 400; call++) {
                s.due("call " + call, x.feed(1, ' '), call);
            }
            for (int call = 401; call <= 424; call++) {
                s.due("call " + call, x.member(1), call - 401);
            }
            for (int call = 425; call <= 436; call++) {
                s.due("call " + call, x.home(0, 1, 1), call - 425);
            }
            for (int call = 437; call <= 496; call++) {
                s.due("call " + call, x.right(2, 0, 0, 10000), call - 437);
            }
            for (int call = 497; call <= 511; call++) {
                s.due("call " + call, x.day(10000), 10000 * (call - 496));
            }
            s.due("call 512", x.propose(), -11);
        });
    }

    private static void numbers() {
        s.test("Terms 0", "TODAY is 0 at first.", () -> {
            HousingSociety x = new HousingSociety();
            s.due("TODAY", x.count(8), 0);
            x.member(1);
            s.due("who comes then came on", x.memberTold(0, 1), 0);
        });
        s.test("Terms 0", "HOMES (12 at most), MEMBERS (24), RIGHTS (60), TEXTS (12), COSTS (30) are numbered from 0 as they come.",
            () -> {
                HousingSociety x = new HousingSociety();
                fill("HOMES", 0, 12, () -> x.home(0, 1, 1));
                fill("MEMBERS", 0, 24, () -> x.member(1));
                s.due("the first RIGHT", x.right(0, 0, 0, 0), 0);
                fill("RIGHTS", 1, 60, () -> x.right(2, 1, 1, 1));
                // TEXT 0 is there at first.
                fill("TEXTS", 1, 12, () -> Checks.propose(x, Probe.FREE));
                fill("COSTS", 0, 30, () -> x.cost(1));
                s.row("how many", x, HousingSociety::count, 12, 24, 24, 60, 60, 12, 30);
            });
        s.test("Terms 0", "A HOME has a STAIR 0 .. 3, ROOMS 1 .. 6, a SHARE 1 .. 100.", () -> {
            int[] first = {0, 1, 1};
            int[] last = {3, 6, 100};
            for (int what = 0; what < 3; what++) {
                for (int n = first[what] - 1; n <= last[what] + 1; n++) {
                    HousingSociety x = new HousingSociety();
                    boolean is = n >= first[what] && n <= last[what];
                    int[] h = first.clone();
                    h[what] = n;
                    s.due("home with " + n, x.home(h[0], h[1], h[2]), is ? 0 : BAD);
                    s.due("it is told", x.homeTold(0, what), is ? n : BAD);
                }
            }
        });
    }

    private static void fill(String what, int first, int most, LongSupplier one) {
        for (int i = first; i < most; i++) {
            s.due(what, one.getAsLong(), i);
        }
        s.due(what + ", one more", one.getAsLong(), FULL);
    }

    private static void members() {
        s.test("Terms 0", "A MEMBER has a FAMILY 1 .. 9, the day on which it came, a day on which it went (none at first), a DEBT"
            + " (a long, 0 at first);", () -> {
                for (int family = 0; family <= 10; family++) {
                    HousingSociety x = new HousingSociety();
                    boolean is = family >= 1 && family <= 9;
                    s.due("FAMILY " + family, x.member(family), is ? 0 : BAD);
                    s.due("it is told", x.memberTold(0, 0), is ? family : BAD);
                }
                HousingSociety x = new HousingSociety();
                x.day(4);
                x.member(2);
                s.due("it came", x.memberTold(0, 1), 4);
                s.due("it went", x.memberTold(0, 2), NONE);
                s.due("DEBT", x.pay(0, 0), 0);
            });
        s.test("Terms 0", "it is HERE from the day on which it came to the one ahead of that on which it went.", () -> {
            HousingSociety x = new HousingSociety();
            x.day(3);
            x.member(1);
            s.due("on the day on which it came", x.memberTold(0, 6), 1);
            x.day(2);
            s.due("on a day behind", x.memberTold(0, 6), 1);
            x.leave(0);
            s.due("on the day on which it went", x.memberTold(0, 6), 0);
            x.day(1);
            s.due("on the day behind", x.memberTold(0, 6), 0);
            x.member(1);
            x.leave(1);
            s.due("who came and went on one day", x.memberTold(1, 6), 0);
            s.due("how many are HERE", x.count(2), 0);
        });
        s.test("Terms 0", "NONE is -1; NO, where a long is answered, -4611686018427387904.", () -> {
            s.due("NONE", HousingSociety.NONE, -1);
            s.due("NO", HousingSociety.NO, -4611686018427387904L);
            HousingSociety x = new HousingSociety();
            s.due("points", x.points(0, 0, 0), -4611686018427387904L);
            s.due("pay", x.pay(0, 0), -4611686018427387904L);
            s.due("fund", x.fund(40, 0), -4611686018427387904L);
            s.due("fault", x.fault(1), -1);
        });
    }

    private static void refusals() {
        s.test("Terms 0", "Refusals, the first that fits: BAD (-2: a number is none such or outside what is told), STATE (-3), FULL (-4);",
            () -> {
                s.due("BAD", HousingSociety.BAD, -2);
                s.due("STATE", HousingSociety.STATE, -3);
                s.due("FULL", HousingSociety.FULL, -4);
                HousingSociety x = Probe.full();
                s.due("BAD, STATE and FULL fit: right", x.right(0, 0, 0, 1), BAD);
                s.due("STATE and FULL fit: right", x.right(0, 0, 0, 0), STATE);
                s.due("FULL fits: right", x.right(0, 3, 3, 0), FULL);
                s.due("BAD, STATE and FULL fit: join", x.join(1, 24), BAD);
                s.due("STATE and FULL fit: join", x.join(1, 1), STATE);
                s.due("FULL fits: join", x.join(0, 3), FULL);
                s.due("BAD and FULL fit: home", x.home(0, 0, 0), BAD);
                s.due("BAD and FULL fit: member", x.member(0), BAD);
                s.due("BAD and FULL fit: feed", x.feed(0, 0), BAD);
                s.due("BAD and FULL fit: cost", x.cost(0), BAD);
                s.due("BAD and STATE fit: vote", x.vote(24, 0, true), BAD);
                s.due("BAD and STATE fit: carry", x.carry(0, -1), BAD);
                s.due("BAD and STATE fit: wish", x.wish(22, 12, true), BAD);
                s.due("BAD and STATE fit: family", x.family(22, 10), BAD);
                x.leave(0);
                x.leave(23);
                s.due("STATE and FULL fit: take", x.take(0, true), STATE);
                s.due("FULL fits: take", x.take(11, true), FULL);
                x.end(2);
                s.due("STATE and FULL fit: cost", x.cost(1), STATE);
            });
        s.test("Terms 0", "they change nothing.", () -> {
            List<ToLongFunction<HousingSociety>> full = List.of(x -> x.home(0, 1, 1), x -> x.member(1), x -> x.right(0, 3, 3, 0),
                x -> x.right(2, 3, 3, 1), x -> x.join(0, 3), x -> x.leave(1), x -> x.leave(2), x -> x.feed(1, 49), x -> x.propose(),
                x -> x.take(11, true), x -> x.change(), x -> x.cost(1));
            full.forEach(call -> s.refused("FULL, call " + full.indexOf(call), Probe::full, call, FULL));
            List<ToLongFunction<HousingSociety>> state = List.of(x -> x.family(4, 1), x -> x.right(0, 0, 9, 0),
                x -> x.right(2, 0, 0, 1), x -> x.join(3, 9), x -> x.join(0, 1), x -> x.end(2), x -> x.leave(4), x -> x.vote(0, 1, false),
                x -> x.vote(9, 4, true), x -> x.carry(4, 5), x -> x.tear(4), x -> x.wait(4), x -> x.offer(0), x -> x.offer(4),
                x -> x.take(6, true), x -> x.take(6, false), x -> x.withdraw(6), x -> x.wish(4, 0, true));
            state.forEach(call -> s.refused("STATE, call " + state.indexOf(call), Probe::busy, call, STATE));
            List<ToLongFunction<HousingSociety>> bad = List.of(x -> x.day(-1), x -> x.home(4, 1, 1), x -> x.member(0),
                x -> x.family(0, 0), x -> x.right(0, 6, 9, 1), x -> x.join(8, 9), x -> x.end(8), x -> x.leave(10),
                x -> x.feed(0, 49), x -> x.vote(9, 5, true), x -> x.carry(1, 4), x -> x.tear(0), x -> x.wait(10), x -> x.offer(7),
                x -> x.take(7, true), x -> x.withdraw(7), x -> x.wish(9, 7, true), x -> x.cost(0), x -> x.year(40, 1),
                x -> x.year(0, -1), x -> x.gain(101));
            bad.forEach(call -> s.refused("BAD, call " + bad.indexOf(call), Probe::busy, call, BAD));
            s.refused("NO", Probe::busy, x -> x.pay(0, -1), NO);
        });
    }

    private static void rights() {
        s.test("Terms 1", "RIGHTS have a KIND: 0 RIGHT, 1 LET under RIGHT, 2 GUEST under LET, 3 JOINT under RIGHT (of two MEMBERS), 4 LEFT"
            + " under RIGHT; a HOME, a MEMBER (a JOINT a second one), the day FROM which they are,", () -> {
                HousingSociety x = Probe.busy();
                s.row("KIND", x, (y, right) -> y.rightTold(right, 0), 0, 1, 0, 3, 0, 3, 2, 4);
                s.row("HOME", x, (y, right) -> y.rightTold(right, 1), 0, 1, 2, 2, 3, 3, 0, 3);
                s.row("MEMBER", x, (y, right) -> y.rightTold(right, 2), 0, 1, 2, 2, 4, 4, 6, 5);
                s.row("the second one", x, (y, right) -> y.rightTold(right, 3), NONE, NONE, NONE, 3, NONE, 5, NONE, NONE);
                s.row("FROM", x, (y, right) -> y.rightTold(right, 4), 0, 0, 0, 0, 0, 0, 0, 3);
                // By KINDS: which are taken for each.
                int[] rightOf = {0, 1, 6, 3, 7};
                String[] under = {"0", "01", "012", "03", "04"};
                for (int kind = 0; kind < 5; kind++) {
                    x.put(0, 1, rightOf[kind]);
                    for (int above = 0; above < 5; above++) {
                        x.forge(0, 0, above);
                        s.due("KIND " + kind + " under " + above, x.status() == 0 ? 1 : 0, under[kind].indexOf('0' + above) >= 0 ? 1 : 0);
                    }
                }
            });
        s.test("Terms 1", "and the day TO which (open at first; of LET and GUEST ones told):", () -> {
            HousingSociety x = Probe.busy();
            s.row("TO", x, (y, right) -> y.rightTold(right, 5), NONE, 30, 0, NONE, 0, 3, 20, NONE);
            x.take(4, true);
            s.due("of one that was taken", x.rightTold(8, 5), NONE);
            x.change();
            s.row("of those who MOVE", x, (y, i) -> y.rightTold(9 + i, 5), NONE, NONE, NONE);
        });
        s.test("Terms 1", "in force on a day d if FROM is at most d and d is below TO.", () -> {
            HousingSociety x = Checks.society(2, 2);
            x.day(10);
            x.right(1, 0, 0, 5);
            x.right(2, 1, 0, 5);
            int[][] days = {{0, NONE}, {9, NONE}, {10, 0}, {11, 0}, {14, 0}, {15, NONE}, {16, NONE}, {2000000, NONE}};
            for (int[] d : days) {
                s.due("of the HOME on " + d[0], x.inForce(0, 0, d[0]), d[1]);
                s.due("of the MEMBER on " + d[0], x.inForce(1, 0, d[0]), d[1]);
            }
            for (int day = 10; day <= 16; day++) {
                s.due("LET today, " + day, x.rightTold(0, 6), day < 15 ? 1 : 0);
                s.due("GUEST today, " + day, x.rightTold(1, 6), day < 15 ? 1 : 0);
                s.due("how many today, " + day, x.count(4), day < 15 ? 2 : 0);
                x.day(1);
            }
            x.right(0, 0, 0, 0);
            s.due("an open one on the day ahead of FROM", x.inForce(0, 0, 16), NONE);
            s.due("an open one on the day FROM", x.inForce(0, 0, 17), 2);
            s.due("an open one on the last day", x.inForce(0, 0, 2000000), 2);
        });
    }

    private static void rightsHeld() {
        s.test("Terms 1", "A HOME is EMPTY if no RIGHT of it but GUESTS is in force today.", () -> {
            HousingSociety x = Probe.busy();
            s.row("by RIGHT, LET, JOINT, LEFT, none", x, (y, home) -> y.homeTold(home, 3), 0, 0, 0, 0, 1);
            x.right(2, 6, 9, 3);
            s.due("by a GUEST", x.homeTold(6, 3), 1);
            x.day(25);
            s.row("a LET till today", x, (y, home) -> y.homeTold(home, 3), 0, 1, 0, 0, 1);
            x.end(0);
            s.due("one that ended", x.homeTold(0, 3), 1);
        });
        s.test("Terms 1", "A JOINT RIGHT is of both its MEMBERS.", () -> {
            HousingSociety x = Probe.busy();
            for (int member = 2; member <= 3; member++) {
                s.due("HOLDS, MEMBER " + member, x.memberTold(member, 4), 2);
                s.due("in force, MEMBER " + member, x.inForce(1, member, 5), 3);
                s.due("no other RIGHT, MEMBER " + member, x.right(0, 6, member, 0), STATE);
                s.due("no GUEST there, MEMBER " + member, x.right(2, 2, member, 1), STATE);
                s.due("not joined to another, MEMBER " + member, x.join(0, member), STATE);
                s.due("on a day ahead of LEFT", x.inForce(1, member + 2, 2), 5);
            }
            x.end(3);
            s.due("the first HOLDS", x.memberTold(2, 4), NONE);
            s.due("the second HOLDS", x.memberTold(3, 4), NONE);
        });
        s.test("Terms 1", "A MEMBER HOLDS the HOME of its RIGHT (not GUEST) that is in force today.", () -> {
            HousingSociety x = Probe.busy();
            s.row("HOLDS", x, (y, member) -> y.memberTold(member, 4), 0, 1, 2, 2, NONE, 3, NONE);
            x.right(2, 6, 0, 9);
            s.due("beside a GUEST right", x.memberTold(0, 4), 0);
            x.right(2, 6, 9, 9);
            s.due("by a GUEST right", x.memberTold(9, 4), NONE);
            x.day(25);
            s.due("by a LET till today", x.memberTold(1, 4), NONE);
        });
    }

    private static void oneRightADay() {
        s.test("Terms 1", "On each day, for each HOME, there is at most one RIGHT in force but GUESTS; for each MEMBER likewise.", () -> {
            HousingSociety x = Probe.busy();
            atMostOne(x);
            x.join(x.right(0, 6, 9, 0), 6);
            x.family(9, 9);
            x.wait(9);
            x.take(4, true);
            atMostOne(x);
            x.family(9, 9);
            x.take(5, true);
            x.day(2);
            x.change();
            atMostOne(x);
            x.leave(2);
            x.end(0);
            x.end(1);
            x.right(1, 1, 1, 3);
            atMostOne(x);
            x.day(3);
            x.right(0, 1, 1, 0);
            x.right(2, 2, 1, 3);
            x.right(2, 2, 1, 3);
            atMostOne(x);
        });
    }

    private static void atMostOne(HousingSociety x) {
        for (int day = 0; day <= 40; day++) {
            for (int home = 0; home < x.count(0); home++) {
                int in = 0;
                for (int right = 0; right < x.count(3); right++) {
                    in += x.rightTold(right, 1) == home && isOn(x, right, day) ? 1 : 0;
                }
                s.due("of HOME " + home + " on " + day, Math.max(in, 1), 1);
                s.due("of HOME " + home + " on " + day + " one is told", x.inForce(0, home, day) == NONE ? 0 : 1, in);
            }
            for (int member = 0; member < x.count(1); member++) {
                int in = 0;
                for (int right = 0; right < x.count(3); right++) {
                    boolean isOf = x.rightTold(right, 2) == member || x.rightTold(right, 3) == member;
                    in += isOf && isOn(x, right, day) ? 1 : 0;
                }
                s.due("of MEMBER " + member + " on " + day, Math.max(in, 1), 1);
                s.due("of MEMBER " + member + " on " + day + " one is told", x.inForce(1, member, day) == NONE ? 0 : 1, in);
            }
        }
    }

    private static boolean isOn(HousingSociety x, int right, int day) {
        int to = x.rightTold(right, 5);
        return x.rightTold(right, 0) != 2 && x.rightTold(right, 4) <= day && (to == NONE || day < to);
    }

    private static void order() {
        s.test("Terms 3", "WAITING: a MEMBER that is HERE WAITS from a day on.", () -> {
            HousingSociety x = Checks.society(1, 2);
            s.due("at first", x.count(9), 0);
            x.day(7);
            x.wait(1);
            s.due("since", x.memberTold(1, 3), 7);
            x.day(7);
            s.due("since, later", x.memberTold(1, 3), 7);
            x.leave(0);
            s.due("who is not HERE", x.wait(0), STATE);
            x.leave(1);
            s.due("who goes", x.count(9), 0);
        });
        s.test("Terms 3", "THE ORDER of a HOME are the MEMBERS that WAIT and have a may that is not 0,", () -> {
            // FAMILY is one more than the number: may is -1, 0, 1, 2.
            HousingSociety x = inOrder("points 1;may family - 2;votes 1;costs 1;", 4);
            s.row("below 0, 0 and above", x, (y, i) -> y.order(0, i), 0, 2, 3, NONE);
            HousingSociety y = inOrder("points 1;may 0;votes 1;costs 1;", 4);
            s.due("nobody may", y.order(0, 0), NONE);
            HousingSociety z = inOrder("points 1;may rooms = 2;votes 1;costs 1;", 2);
            s.due("not HOME 0", z.order(0, 0), NONE);
            s.row("HOME 1", z, (u, i) -> u.order(1, i), 0, 1, NONE);
            HousingSociety w = inOrder("points 1;may 65536 * 65536 * 65536 * 65536;votes 1;costs 1;", 1);
            s.due("a may that wraps to 0", w.order(0, 0), NONE);
            HousingSociety v = inOrder("points 1;may 65536 * 65536 ;votes 1;costs 1;", 1);
            s.due("a may whose lowest bits are 0", v.order(0, 0), 0);
        });
        s.test("Terms 3", "by POINTS, the most first,", () -> {
            HousingSociety x = inOrder("points family;may 1;votes 1;costs 1;", 4);
            s.row("above 0", x, (y, i) -> y.order(0, i), 3, 2, 1, 0, NONE);
            HousingSociety y = inOrder("points 2 - family;may 1;votes 1;costs 1;", 4);
            s.row("below 0", y, (z, i) -> z.order(0, i), 0, 1, 2, 3, NONE);
            // By FAMILY 1 one less than the least long, which wraps to the most; by 2 the least, by 3 one more.
            String least = "65536 * 65536 * 65536 * 32768";
            HousingSociety z = inOrder("points " + least + " - (family = 1) + (family = 3);may 1;votes 1;costs 1;", 3);
            s.due("the most", z.points(0, 0, 0), Long.MAX_VALUE);
            s.due("the least", z.points(1, 0, 0), Long.MIN_VALUE);
            s.row("the most and the least", z, (u, i) -> u.order(0, i), 0, 2, 1, NONE);
        });
        s.test("Terms 3", "of like ones the one that WAITS longest, then the least number.", () -> {
            HousingSociety x = Checks.society(1, 5);
            x.wait(3);
            x.day(1);
            x.wait(4);
            x.wait(1);
            x.day(1);
            x.wait(0);
            x.wait(2);
            Checks.enact(x, "points 5;may 1;votes 1;costs 1;", 1);
            s.row("of like ones", x, (y, i) -> y.order(0, i), 3, 1, 4, 0, 2, NONE);
            Checks.enact(x, "points family = 3;may 1;votes 1;costs 1;", 1);
            s.row("one with more", x, (y, i) -> y.order(0, i), 2, 3, 1, 4, 0, NONE);
        });
    }

    /** HOMES 0 and 1, so many MEMBERS that all WAIT since today, and a TEXT IN FORCE. */
    private static HousingSociety inOrder(String text, int members) {
        HousingSociety x = Checks.society(2, members);
        for (int member = 0; member < members; member++) {
            x.wait(member);
        }
        Checks.enact(x, text, 1);
        return x;
    }

    private static void offers() {
        s.test("Terms 3", "AN OFFER of an EMPTY HOME is to the first of THE ORDER that did not refuse this OFFER;", () -> {
            HousingSociety x = Probe.busy();
            s.due("one refused", x.homeTold(4, 4), 7);
            s.due("none refused this one", x.homeTold(5, 4), 8);
            s.due("of a HOME that is not EMPTY", x.offer(0), STATE);
            x.family(0, 9);
            x.family(8, 1);
            x.family(7, 1);
            s.due("THE ORDER is another", x.homeTold(5, 4), 0);
            x.take(5, false);
            s.due("the next that did not refuse", x.homeTold(5, 4), 6);
            x.day(45);
            s.due("by another TEXT: POINTS less the longer it WAITS", x.homeTold(5, 4), 8);
        });
        s.test("Terms 3", "it is there till it is taken or withdrawn.", () -> {
            HousingSociety x = Probe.busy();
            x.day(10000);
            s.due("on a later day", x.homeTold(4, 5), 1);
            for (int i = 0; i < 4; i++) {
                x.take(4, false);
            }
            s.due("all refused", x.homeTold(4, 5), 1);
            x.leave(8);
            x.leave(7);
            s.due("who refused are gone", x.homeTold(4, 5), 1);
            s.due("it can't be offered again", x.offer(4), STATE);
            x.withdraw(4);
            s.due("it is withdrawn", x.homeTold(4, 5), 0);
            x.take(5, true);
            s.due("it is taken", x.homeTold(5, 5), 0);
        });
    }

    private static void changes() {
        s.test("Terms 3", "A CHANGE: MEMBERS that HOLD a HOME by a RIGHT, JOINT or LEFT with open TO may WISH HOMES.", () -> {
            HousingSociety x = Probe.busy();
            x.withdraw(4);
            x.withdraw(5);
            x.home(0, 1, 1);
            for (int member = 0; member < 10; member++) {
                for (int home = 0; home < 8; home++) {
                    x.wish(member, home, home == 4 + member % 4);
                }
            }
            s.row("each its own EMPTY HOME", x, (y, member) -> y.moves(member), 4, NONE, 6, NONE, NONE, 5, NONE, NONE, NONE, NONE);
            s.due("a RIGHT, a JOINT and a LEFT one", x.best(), 3);
        });
        s.test("Terms 3", "A CHANGE lets some of them MOVE, each to another HOME that it WISHES,", () -> {
            HousingSociety x = Checks.society(3, 2);
            x.right(0, 0, 0, 0);
            x.right(0, 1, 1, 0);
            s.due("none WISHES", x.best(), 0);
            x.wish(0, 0, true);
            s.due("its own HOME is no other", x.best(), 0);
            x.wish(0, 2, true);
            s.due("another HOME", x.moves(0), 2);
            s.due("the other one stays", x.moves(1), NONE);
            x.wish(0, 2, false);
            s.due("it WISHES no more", x.best(), 0);
        });
        s.test("Terms 3", "no two to one HOME,", () -> {
            HousingSociety x = Checks.society(4, 3);
            for (int i = 0; i < 3; i++) {
                x.right(0, i, i, 0);
                x.wish(i, 3, true);
            }
            s.due("one of three", x.best(), 1);
            s.row("the least one", x, (y, member) -> y.moves(member), 3, NONE, NONE);
            x.wish(1, 0, true);
            s.row("the HOME that is left", x, (y, member) -> y.moves(member), 3, 0, NONE);
        });
        s.test("Terms 3", "each of these HOMES being EMPTY (and not on OFFER),", () -> {
            HousingSociety x = Checks.society(3, 3);
            x.right(0, 0, 0, 0);
            x.wish(0, 1, true);
            x.right(2, 1, 1, 9);
            s.due("EMPTY, with a GUEST", x.moves(0), 1);
            x.offer(1);
            s.due("on OFFER", x.moves(0), NONE);
            x.withdraw(1);
            s.due("on OFFER no more", x.moves(0), 1);
            x.right(1, 1, 1, 2);
            s.due("LET", x.moves(0), NONE);
            x.day(1);
            s.due("on the last day of the LET", x.moves(0), NONE);
            x.day(1);
            s.due("on the day TO of the LET", x.moves(0), 1);
        });
        s.test("Terms 3", "or that of one that MOVES.", () -> {
            HousingSociety x = Checks.society(4, 3);
            for (int i = 0; i < 3; i++) {
                x.right(0, i, i, 0);
            }
            x.wish(0, 1, true);
            s.due("of one that stays", x.best(), 0);
            x.wish(1, 0, true);
            s.row("of one that MOVES in a ring", x, (y, member) -> y.moves(member), 1, 0, NONE);
            x.wish(1, 0, false);
            x.wish(1, 2, true);
            s.due("a chain without an EMPTY HOME", x.best(), 0);
            x.wish(2, 3, true);
            s.row("a chain to an EMPTY HOME", x, (y, member) -> y.moves(member), 1, 2, 3);
            x.offer(3);
            s.due("a chain to a HOME on OFFER", x.best(), 0);
        });
    }

    private static void theChange() {
        s.test("Terms 3", "THE CHANGE is, of those in which most MOVE,", () -> {
            HousingSociety x = Checks.society(4, 3);
            for (int i = 0; i < 3; i++) {
                x.right(0, i, i, 0);
            }
            x.wish(0, 1, true);
            x.wish(0, 3, true);
            x.wish(1, 0, true);
            s.due("a ring of two", x.moves(0), 1);
            x.wish(2, 1, true);
            s.row("a chain of three, though 0 has the greater HOME", x, (y, member) -> y.moves(member), 3, 0, 1);
            x.wish(2, 1, false);
            x.wish(2, 0, true);
            s.row("two and two: 0 has the least HOME", x, (y, member) -> y.moves(member), 1, 0, NONE);
        });
        s.test("Terms 3", "the one in which MEMBER 0 MOVES to the HOME with the least number (not to MOVE comes behind all HOMES), then"
            + " MEMBER 1, and so on.", () -> {
                HousingSociety x = Checks.society(12, 3);
                x.right(0, 0, 2, 0);
                x.right(0, 1, 1, 0);
                x.right(0, 2, 0, 0);
                x.wish(0, 11, true);
                x.wish(1, 11, true);
                s.due("the last HOME is ahead of not to MOVE", x.moves(0), 11);
                s.due("then MEMBER 1 does not", x.moves(1), NONE);
                x.wish(0, 10, true);
                s.row("the least HOME", x, (y, member) -> y.moves(member), 10, 11, NONE);
                x.wish(1, 10, true);
                x.wish(2, 10, true);
                x.wish(2, 11, true);
                s.row("0, then 1, and 2 does not", x, (y, member) -> y.moves(member), 10, 11, NONE);
                x.wish(0, 10, false);
                s.row("1 has what 0 does not WISH", x, (y, member) -> y.moves(member), 11, 10, NONE);
                x.wish(2, 9, true);
                s.row("2 has what is left", x, (y, member) -> y.moves(member), 11, 10, 9);
                HousingSociety z = Checks.society(12, 3);
                for (int i = 0; i < 3; i++) {
                    z.right(0, i, i, 0);
                }
                z.wish(0, 3, true);
                z.wish(0, 4, true);
                z.wish(1, 3, true);
                z.wish(1, 11, true);
                s.row("the least of 0 comes ahead of all that 1 could have", z, (y, member) -> y.moves(member), 3, 11, NONE);
                z.wish(1, 10, true);
                z.wish(2, 10, true);
                z.wish(2, 11, true);
                z.wish(2, 5, true);
                s.row("then the least of 1, and of 2", z, (y, member) -> y.moves(member), 3, 10, 5);
                // Three of four can MOVE: as 0, -, 11, 1 or as 1, 0, 2, -; the first HOME of 0 outweighs all the rest.
                HousingSociety u = Checks.society(12, 4);
                int[] own = {3, 2, 4, 11};
                int[][] wished = {{0, 1}, {0}, {2, 11}, {1}};
                for (int member = 0; member < 4; member++) {
                    u.right(0, own[member], member, 0);
                    for (int home : wished[member]) {
                        u.wish(member, home, true);
                    }
                }
                s.row("the least of 0, though 1 stays and 2 has the last HOME", u, (y, member) -> y.moves(member), 0, NONE, 11, 1);
            });
        s.test("Terms 3", "(Of a JOINT RIGHT its first MEMBER alone can WISH; both go.)", () -> {
            HousingSociety x = Checks.society(2, 2);
            x.right(0, 0, 1, 0);
            x.join(0, 0);
            x.wish(0, 1, true);
            s.due("the second one, though its number is less", x.best(), 0);
            x.wish(1, 1, true);
            s.due("the first one", x.best(), 1);
            s.due("it MOVES", x.moves(1), 1);
            x.change();
            s.due("the first went", x.memberTold(1, 4), 1);
            s.due("the second went", x.memberTold(0, 4), 1);
            x.leave(1);
            x.wish(0, 0, true);
            s.due("who was the second, by its LEFT RIGHT", x.moves(0), 0);
        });
    }

    /** So many HOMES, each of the MEMBER with its number by a RIGHT, and a TEXT with these costs. HOME i has a SHARE of i + 1. */
    private static HousingSociety payers(int homes, String costs) {
        HousingSociety x = Checks.society(homes, homes);
        for (int home = 0; home < homes; home++) {
            x.right(0, home, home, 0);
        }
        Checks.enact(x, "points 1;may 1;votes 1;costs " + costs + ";", 1);
        return x;
    }

    private static void costs() {
        s.test("Terms 4", "A COST is PARTED among the HOMES with a RIGHT in force today (not GUEST):", () -> {
            HousingSociety x = Probe.busy();
            x.right(2, 6, 9, 9);
            x.cost(1200);
            s.row("RIGHT, LET, JOINT, LEFT; not GUEST", x, (y, home) -> y.parted(2, home), 100, 200, 300, 600, 0, 0, 0);
            x.day(24);
            x.cost(1200);
            s.due("on the last day of a LET", x.parted(3, 1), 200);
            x.day(1);
            // TEXT 2 is in force till the day ahead of 50.
            x.cost(1000);
            s.row("on the day TO of a LET", x, (y, home) -> y.parted(4, home), 100, 0, 300, 600, 0, 0, 0);
            x.end(0);
            x.cost(900);
            s.row("without the first HOME", x, (y, home) -> y.parted(5, home), 0, 0, 300, 600, 0, 0, 0);
            s.due("DEBT of who left it", x.pay(0, 0), 9 + 300);
        });
        s.test("Terms 4", "each has a weight, its costs by the TEXT IN FORCE, 0 if that is below 0,", () -> {
            HousingSociety x = payers(4, "share - 2");
            x.cost(3);
            s.row("-1, 0, 1, 2", x, (y, home) -> y.parted(0, home), 0, 0, 1, 2);
            HousingSociety y = payers(2, "(share = 1) - (share = 2) * 65536 * 65536 * 65536 * 32768");
            y.cost(9);
            s.row("1 and the least long", y, (z, home) -> z.parted(0, home), 9, 0);
            HousingSociety z = Probe.busy();
            z.day(44);
            z.cost(10000);
            s.due("on the day ahead of TEXT 3, by ROOMS 1 of 10", z.parted(2, 0), 1000);
            z.day(1);
            z.cost(9000);
            s.row("on the day of TEXT 3, by 1 of 3", z, (u, home) -> u.parted(3, home), 3000, 0, 3000, 3000);
        });
        s.test("Terms 4", "1000000 if above;", () -> {
            HousingSociety x = payers(2, "999998 + share");
            x.cost(1);
            s.row("999999 and 1000000", x, (y, home) -> y.parted(0, home), 0, 1);
            HousingSociety y = payers(2, "999999 + share");
            y.cost(1);
            s.row("1000000 and 1000001", y, (z, home) -> z.parted(0, home), 1, 0);
            HousingSociety z = payers(2, "1 + (share = 2) * 999999 * 999999");
            z.cost(1000000);
            s.row("1 and far above", z, (u, home) -> u.parted(0, home), 1, 999999);
            HousingSociety w = payers(12, "999999 * 999999");
            w.cost(1000000);
            s.row("all far above", w, (u, home) -> u.parted(0, home), 83334, 83334, 83334, 83334, 83333, 83333, 83333, 83333, 83333, 83333,
                83333, 83333);
        });
    }

    private static void costsLeft() {
        s.test("Terms 4", "each gets the cut part of the COST as its weight is to all;", () -> {
            HousingSociety x = payers(3, "share");
            x.cost(6);
            s.row("6 by 1, 2, 3", x, (y, home) -> y.parted(0, home), 1, 2, 3);
            x.cost(1000000);
            s.row("a million by 1, 2, 3", x, (y, home) -> y.parted(1, home), 166667, 333333, 500000);
            HousingSociety y = payers(1, "1");
            y.cost(1000000);
            s.due("all to one", y.parted(0, 0), 1000000);
            HousingSociety z = payers(2, "(share = 1) * 999999 + 1");
            z.cost(1000000);
            s.row("a million by 1000000 and 1", z, (u, home) -> u.parted(0, home), 999999, 1);
        });
        s.test("Terms 4", "the coins that are left go one each to those that lack most by cutting,", () -> {
            HousingSociety x = payers(3, "share");
            // Of 4: 4/6, 8/6, 12/6: 0, 1, 2 and 4, 2, 0 are lacking.
            x.cost(4);
            s.row("4 by 1, 2, 3", x, (y, home) -> y.parted(0, home), 1, 1, 2);
            // Of 5: 5/6, 10/6, 15/6: 0, 1, 2 and 5, 4, 3 are lacking: two coins.
            x.cost(5);
            s.row("5 by 1, 2, 3", x, (y, home) -> y.parted(1, home), 1, 2, 2);
            // Of 1: 1/6, 2/6, 3/6.
            x.cost(1);
            s.row("1 by 1, 2, 3", x, (y, home) -> y.parted(2, home), 0, 0, 1);
            HousingSociety y = payers(12, "share + 77");
            for (int coins : new int[] {1, 11, 12, 13, 999999, 1000000}) {
                int cost = y.cost(coins);
                long sum = 0;
                for (int home = 0; home < 12; home++) {
                    sum += y.parted(cost, home);
                }
                s.due("all coins are parted", sum, coins);
            }
        });
        s.test("Terms 4", "of like ones the least HOME.", () -> {
            HousingSociety x = payers(12, "1");
            x.cost(11);
            s.row("11 by 12", x, (y, home) -> y.parted(0, home), 1, 1, 1, 1, 1, 1, 1, 1, 1, 1, 1, 0);
            x.cost(13);
            s.row("13 by 12", x, (y, home) -> y.parted(1, home), 2, 1, 1, 1, 1, 1, 1, 1, 1, 1, 1, 1);
            HousingSociety y = payers(4, "share = 1 or share = 4");
            y.cost(3);
            s.row("not to one without a weight", y, (z, home) -> z.parted(0, home), 2, 0, 0, 1);
            HousingSociety z = payers(3, "(share < 3) * 2 + 1");
            // Of 4 by 3, 3, 1: 12/7, 12/7, 4/7: 1, 1, 0 and 5, 5, 4 are lacking.
            z.cost(4);
            s.row("4 by 3, 3, 1", z, (u, home) -> u.parted(0, home), 2, 2, 0);
            z.cost(1);
            s.row("1 by 3, 3, 1", z, (u, home) -> u.parted(1, home), 1, 0, 0);
        });
        s.test("Terms 4", "It is added to the DEBT of the MEMBER of the RIGHT.", () -> {
            HousingSociety x = Probe.busy();
            s.row("DEBTS", x, (y, member) -> y.pay(member, 0), 9, 18 - 50, 27, 0, 0, 53, 0);
            x.cost(12);
            s.row("more", x, (y, member) -> y.pay(member, 0), 10, 20 - 50, 30, 0, 0, 59, 0);
            HousingSociety y = Checks.society(1, 1);
            y.right(0, 0, 0, 0);
            for (int i = 0; i < 30; i++) {
                y.cost(1000000);
            }
            s.due("the most that a MEMBER can owe", y.pay(0, 0), 30000000);
        });
    }

    private static void fund() {
        s.test("Terms 4", "THE FUND has YEARS 0 .. 39, each with what it costs (0 at first),", () -> {
            for (int y = -1; y <= 40; y++) {
                HousingSociety x = new HousingSociety();
                boolean is = y >= 0 && y < 40;
                s.due("year " + y, x.year(y, 5), is ? 0 : BAD);
                s.due("behind year " + y, x.fund(y, 0), is ? -5 : NO);
                s.due("behind the last year", x.fund(39, 0), is ? -5 : 0);
            }
        });
        s.test("Terms 4", "and a YIELD 0 .. 100 (1000ths):", () -> {
            for (int n = -1; n <= 101; n++) {
                HousingSociety x = new HousingSociety();
                boolean is = n >= 0 && n <= 100;
                s.due("YIELD " + n, x.gain(n), is ? 0 : BAD);
                s.due("of 1000", x.fund(0, 1000), 1000 + (is ? n : 0));
            }
        });
        s.test("Terms 4", "it begins with 0;", () -> {
            HousingSociety x = new HousingSociety();
            x.gain(100);
            s.due("without a due", x.fund(0, 0), 0);
            s.due("without a due, to the end", x.fund(39, 0), 0);
            s.due("with one", x.fund(0, 7), 7);
        });
        s.test("Terms 4", "in each year a due comes to it, then so many 1000ths of it as YIELD tells (cut towards 0), then what the year"
            + " costs is taken.", () -> {
                HousingSociety x = new HousingSociety();
                x.gain(100);
                s.due("9: 0.9 is cut", x.fund(0, 9), 9);
                s.due("10", x.fund(0, 10), 11);
                s.due("19: 1.9 is cut", x.fund(0, 19), 20);
                s.due("what came in the first year bears again", x.fund(1, 10), 21 + 2);
                x.year(0, 19);
                s.due("what it costs is taken behind", x.fund(0, 10), 11 - 19);
                s.due("below 0: -0.8 is cut towards 0", x.fund(1, 0), -19 - 1);
                s.due("-20: -2", x.fund(2, 0), -22);
                s.due("behind a year that left 0", x.fund(1, 18), 19);
            });
        s.test("Terms 4", "THE DUE is the least whole number with which it is never below 0.", () -> {
            for (int yield : new int[] {0, 1, 50, 99, 100}) {
                for (int year : new int[] {0, 1, 20, 38, 39}) {
                    for (int coins : new int[] {1, 2, 39, 40, 41, 999, 1000, 1001, 999999, 1000000}) {
                        HousingSociety x = new HousingSociety();
                        x.gain(yield);
                        x.year(year, coins);
                        isLeast("year " + year + ", YIELD " + yield + ", coins " + coins, x);
                        x.year(0, coins / 2);
                        isLeast("also in year 0", x);
                        x.year(39, 1000000);
                        isLeast("also in year 39", x);
                    }
                }
            }
            s.due("nothing costs", new HousingSociety().due(), 0);
            HousingSociety x = new HousingSociety();
            for (int y = 0; y < 40; y++) {
                x.year(y, 1000000);
            }
            s.due("all years are the dearest", x.due(), 1000000);
            x.year(0, 999999);
            s.due("a coin is left from the first year", x.due(), 1000000);
            for (int y = 0; y < 39; y++) {
                x.year(y, 0);
            }
            s.due("the last year alone", x.due(), 25000);
            x.year(39, 999999);
            s.due("a coin less", x.due(), 25000);
            x.year(39, 999960);
            s.due("40 coins less", x.due(), 24999);
        });
    }

    private static void isLeast(String call, HousingSociety x) {
        int due = x.due();
        long with = 0;
        long withLess = due == 0 ? -1 : 0;
        for (int y = 0; y < 40; y++) {
            with = Math.min(with, x.fund(y, due));
            withLess = due == 0 ? -1 : Math.min(withLess, x.fund(y, due - 1));
        }
        s.due(call + ": with it", with, 0);
        s.due(call + ": below 0 with less", withLess < 0 ? 1 : 0, 1);
    }

    private static void trays() {
        s.test("Terms 5", "TRAYS 0 .. 5 hold a thing: nothing (at first),", () -> {
            for (int tray = -1; tray <= 6; tray++) {
                HousingSociety x = new HousingSociety();
                boolean is = tray >= 0 && tray < 6;
                s.due("TRAY " + tray + " at first", x.forge(tray, 6, 0), is ? 0 : -1);
                s.due("STATUS", x.status(), is ? 0 : 1);
                x.forge(tray, 1, 0);
                s.due("nothing", x.status(), is ? 10 : 1);
                s.due("put", x.put(tray, 2, 0), is ? 1 : -1);
                s.due("it holds that", x.forge(tray, 1, 0), is ? 'p' : -1);
                for (int other = 0; other < 6; other++) {
                    s.due("another holds it", other == tray || x.forge(other, 1, 0) == -1 ? 1 : 0, 1);
                }
            }
        });
        s.test("Terms 5", "a RIGHT, the TEXT IN FORCE as bytes, DEBTS by MEMBERS (longs), for each HOME whether it is EMPTY today (truths).",
            () -> {
                HousingSociety x = Probe.busy();
                s.due("a RIGHT", x.forge(5, 0, 4), 3);
                s.due("bytes", x.forge(2, 1, 13), '+');
                s.due("DEBTS", x.forge(3, 2, 1), -32);
                s.row("truths", x, (y, home) -> y.forge(4, 3, home), 0, 0, 0, 0, 1, 1, 1, -1);
                x.put(2, 1, 7);
                s.due("another thing, in its stead", x.forge(2, 0, 4), 3);
            });
    }

    private static void status() {
        // By STATUS, in the document's words: a forge() in busy() that is answered so.
        String[] words = {"The host refuses: STATUS 10 nothing where something is asked,", "11 a thing of another sort,", "12 a place outside,",
            "13 a size below 0,", "14 a thing that does not fit,", "15 divided by 0;"};
        int[][][] calls = {{{0, 0, 0}, {0, 1, 0}, {0, 2, 0}, {0, 3, 0}, {0, 5, 0}, {2, 8, 0}}, {{1, 0, 2}, {2, 0, 0}, {3, 1, 0}, {4, 2, 0},
            {2, 3, 0}, {3, 5, 0}}, {{2, 1, -1}, {2, 1, 56}, {3, 2, -1}, {3, 2, 10}, {4, 3, -1}, {4, 3, 7}, {2, 5, -1}, {2, 5, 5}},
            {{0, 4, -1}, {2, 4, -100}}, {{2, 6, 0}, {5, 6, 0}}, {{0, 7, 0}, {2, 7, 0}}};
        for (int i = 0; i < words.length; i++) {
            int status = 10 + i;
            int[][] refused = calls[i];
            s.test("Terms 5", words[i], () -> {
                for (int[] c : refused) {
                    HousingSociety x = Probe.busy();
                    s.due("forge(" + c[0] + ", " + c[1] + ", " + c[2] + ")", x.forge(c[0], c[1], c[2]), -1);
                    s.due("STATUS", x.status(), status);
                }
            });
        }
        s.test("Terms 5", "a call answers -1 then.", () -> {
            for (int[][] some : calls) {
                for (int[] c : some) {
                    s.due("forge(" + c[0] + ", " + c[1] + ", " + c[2] + ")", Probe.busy().forge(c[0], c[1], c[2]), -1);
                }
            }
        });
        s.test("Terms 5", "STATUS is of the latest put(), forge(): 0 done,", () -> {
            HousingSociety x = Probe.busy();
            s.due("of forge()", x.status(), 15);
            x.put(0, 0, 0);
            s.due("of put()", x.status(), 0);
            x.forge(0, 8, 0);
            s.due("of forge() again", x.status(), 10);
            x.forge(0, 7, 1);
            s.due("done", x.status(), 0);
        });
        s.test("Terms 5", "1 a number is none such (-1, too).", () -> {
            int[][] puts = {{-1, 0, 0}, {6, 0, 0}, {0, -1, 0}, {0, 5, 0}, {0, 1, -1}, {0, 1, 8}};
            for (int[] p : puts) {
                HousingSociety x = Probe.busy();
                s.due("put(" + p[0] + ", " + p[1] + ", " + p[2] + ")", x.put(p[0], p[1], p[2]), -1);
                s.due("STATUS", x.status(), 1);
            }
            int[][] forges = {{-1, 4, 0}, {6, 4, 0}, {0, -1, 0}, {0, 9, 0}, {0, 4, -101}, {0, 4, 101}};
            for (int[] f : forges) {
                HousingSociety x = Probe.busy();
                s.due("forge(" + f[0] + ", " + f[1] + ", " + f[2] + ")", x.forge(f[0], f[1], f[2]), -1);
                s.due("STATUS", x.status(), 1);
            }
        });
    }
}
