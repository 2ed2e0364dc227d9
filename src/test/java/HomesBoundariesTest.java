/** The sentences of promises 1 to 13, each with a test of its own: the first and last that is allowed, and each refusal. */
public final class HomesBoundariesTest {
    private static final int NONE = HousingSociety.NONE, BAD = HousingSociety.BAD, STATE = HousingSociety.STATE,
            FULL = HousingSociety.FULL;
    private static final int LEAST = Integer.MIN_VALUE, MOST = Integer.MAX_VALUE;

    private static Sentences s;

    public static void main(String[] args) throws Exception {
        s = new Sentences(args);
        newObject1();
        day2();
        home3();
        member4();
        family5();
        right6();
        right6Refused();
        join7();
        join7Refused();
        end8();
        leave9();
        leave9Refused();
        rightTold10();
        inForce11();
        homeTold12();
        homeTold12Offers();
        memberTold13();
        memberTold13Refused();
        String[] places = new String[13];
        for (int i = 0; i < places.length; i++) {
            places[i] = "Promise " + (i + 1);
        }
        s.finish("HomesBoundariesTest", places);
    }

    private static void newObject1() {
        s.test("Promise 1", "No HOMES, no MEMBERS; TEXT 0.", () -> {
            HousingSociety x = new HousingSociety();
            s.row("count", x, HousingSociety::count, 0, 0, 0, 0, 0, 1, 0, 0, 0, 0, 0, 0);
            s.due("HOME 0", x.homeTold(0, 0), BAD);
            s.due("MEMBER 0", x.memberTold(0, 0), BAD);
            s.due("RIGHT 0", x.rightTold(0, 0), BAD);
            s.due("TEXT 0", x.textTold(0, 0), 1);
            s.due("TEXT 1", x.textTold(1, 0), BAD);
            s.due("COST 0", x.parted(0, 0), BAD);
            s.due("best", x.best(), 0);
            s.due("change", x.change(), 0);
            s.due("cost", x.cost(1), STATE);
            HousingSociety other = new HousingSociety();
            other.day(1);
            other.home(0, 1, 1);
            other.member(1);
            s.due("another object's HOMES", x.count(0), 0);
            s.due("another object's TODAY", x.count(8), 0);
            s.due("one that is made behind another", new HousingSociety().count(1), 0);
        });
    }

    private static void day2() {
        s.test("Promise 2", "TODAY goes n days (0 .. 10000) on: TODAY.", () -> {
            HousingSociety x = new HousingSociety();
            s.due("0", x.day(0), 0);
            s.due("1", x.day(1), 1);
            s.due("9999", x.day(9999), 10000);
            s.due("10000", x.day(10000), 20000);
            s.due("0 again", x.day(0), 20000);
            s.due("TODAY", x.count(8), 20000);
        });
        s.test("Promise 2", "BAD;", () -> {
            s.range("day", Probe::busy, 0, 10000, HousingSociety::day, BAD);
            for (int n : new int[] {LEAST, -1, 10001, MOST}) {
                s.refused("day on the last day, " + n, Probe::late, x -> x.day(n), BAD);
            }
        });
        s.test("Promise 2", "FULL: it would be above 1000000.", () -> {
            s.due("TODAY is the last day", Probe.late().count(8), 1000000);
            s.due("0 on the last day", Probe.late().day(0), 1000000);
            s.refused("1 on the last day", Probe::late, x -> x.day(1), FULL);
            s.refused("10000 on the last day", Probe::late, x -> x.day(10000), FULL);
            HousingSociety x = new HousingSociety();
            for (int i = 0; i < 99; i++) {
                x.day(10000);
            }
            s.due("to the day ahead of the last", x.day(9999), 999999);
            s.due("two more", x.day(2), FULL);
            s.due("one more", x.day(1), 1000000);
        });
    }

    private static void home3() {
        s.test("Promise 3", "A HOME: its number.", () -> {
            HousingSociety x = new HousingSociety();
            s.due("the least of all", x.home(0, 1, 1), 0);
            s.due("the most of all", x.home(3, 6, 100), 1);
            s.row("the least", x, (y, what) -> y.homeTold(0, what), 0, 1, 1);
            s.row("the most", x, (y, what) -> y.homeTold(1, what), 3, 6, 100);
            s.due("how many", x.count(0), 2);
        });
        s.test("Promise 3", "BAD;", () -> {
            s.range("STAIR", Probe::busy, 0, 3, (x, n) -> x.home(n, 1, 1), BAD);
            s.range("ROOMS", Probe::busy, 1, 6, (x, n) -> x.home(0, n, 1), BAD);
            s.range("SHARE", Probe::busy, 1, 100, (x, n) -> x.home(0, 1, n), BAD);
            s.refused("BAD ahead of FULL", Probe::full, x -> x.home(4, 1, 1), BAD);
            s.refused("BAD ahead of FULL", Probe::full, x -> x.home(0, 7, 1), BAD);
            s.refused("BAD ahead of FULL", Probe::full, x -> x.home(0, 1, 101), BAD);
        });
        s.test("Promise 3", "FULL.", () -> {
            HousingSociety x = Checks.society(11, 0);
            s.due("the last one", x.home(0, 1, 1), 11);
            s.due("one more", x.home(0, 1, 1), FULL);
            s.refused("FULL", Probe::full, y -> y.home(0, 1, 1), FULL);
        });
    }

    private static void member4() {
        s.test("Promise 4", "A MEMBER that comes today: its number.", () -> {
            HousingSociety x = new HousingSociety();
            s.due("on day 0", x.member(1), 0);
            x.day(9);
            s.due("on day 9", x.member(9), 1);
            s.due("it came on day 0", x.memberTold(0, 1), 0);
            s.due("it came on day 9", x.memberTold(1, 1), 9);
            s.due("FAMILY", x.memberTold(1, 0), 9);
            s.due("on the last day", Probe.late().member(5), 10);
        });
        s.test("Promise 4", "BAD;", () -> {
            s.range("FAMILY", Probe::busy, 1, 9, HousingSociety::member, BAD);
            s.refused("BAD ahead of FULL", Probe::full, x -> x.member(0), BAD);
            s.refused("BAD ahead of FULL", Probe::full, x -> x.member(10), BAD);
        });
        s.test("Promise 4", "FULL.", () -> {
            HousingSociety x = Checks.society(0, 23);
            s.due("the last one", x.member(1), 23);
            s.due("one more", x.member(1), FULL);
            x.leave(3);
            s.due("who has gone makes no room", x.member(1), FULL);
            s.refused("FULL", Probe::full, y -> y.member(1), FULL);
        });
    }

    private static void family5() {
        s.test("Promise 5", "A FAMILY becomes n (1 .. 9): what it was.", () -> {
            HousingSociety x = Probe.busy();
            s.due("9", x.family(2, 9), 3);
            s.due("1", x.family(2, 1), 9);
            s.due("1 again", x.family(2, 1), 1);
            s.due("it is told", x.memberTold(2, 0), 1);
            s.due("another's", x.memberTold(3, 0), 4);
            s.range("n", Probe::busy, 1, 9, (y, n) -> y.family(0, n), BAD);
        });
        s.test("Promise 5", "BAD: no such MEMBER;", () -> {
            s.range("member", Probe::busy, 0, 9, (x, n) -> x.family(n, 3), BAD);
            s.due("there are none", new HousingSociety().family(0, 3), BAD);
            s.refused("BAD ahead of STATE", Probe::busy, x -> x.family(4, 0), BAD);
            s.refused("BAD ahead of STATE", Probe::busy, x -> x.family(4, 10), BAD);
        });
        s.test("Promise 5", "STATE: it is not HERE.", () -> {
            s.refused("who went days ago", Probe::busy, x -> x.family(4, 3), STATE);
            HousingSociety x = Probe.busy();
            s.due("who is HERE", x.family(9, 3), 1);
            x.leave(9);
            s.due("who went today", x.family(9, 4), STATE);
            s.due("its FAMILY stays", x.memberTold(9, 0), 3);
        });
    }

    private static void right6() {
        s.test("Promise 6", "A RIGHT of KIND 0, 1, 2 from today: its number;", () -> {
            HousingSociety x = Checks.society(3, 3);
            x.day(8);
            for (int kind = 0; kind < 3; kind++) {
                s.due("KIND " + kind, x.right(kind, kind, kind, kind == 0 ? 0 : 7), kind);
                int right = kind;
                s.row("told", x, (y, what) -> y.rightTold(right, what), kind, kind, kind, NONE, 8, kind == 0 ? NONE : 15, 1);
            }
            s.range("kind that takes days", Probe::busy, 1, 2, (y, kind) -> y.right(kind, 6, 9, 1), BAD);
            s.range("kind that takes none", Probe::busy, 0, 0, (y, kind) -> y.right(kind, 6, 9, 0), BAD);
        });
        s.test("Promise 6", "days 1 .. 10000 for LET and GUEST (TO is so many days behind today), else 0.", () -> {
            s.range("days of a RIGHT", Probe::busy, 0, 0, (x, n) -> x.right(0, 6, 9, n), BAD);
            s.range("days of a LET", Probe::busy, 1, 10000, (x, n) -> x.right(1, 6, 9, n), BAD);
            s.range("days of a GUEST", Probe::busy, 1, 10000, (x, n) -> x.right(2, 6, 9, n), BAD);
            for (int kind = 1; kind <= 2; kind++) {
                for (int days : new int[] {1, 10000}) {
                    HousingSociety x = Probe.busy();
                    int right = x.right(kind, 6, 9, days);
                    s.due("TO", x.rightTold(right, 5), 5 + days);
                    x.day(days - 1);
                    s.due("on its last day", x.rightTold(right, 6), 1);
                    x.day(1);
                    s.due("on the day TO", x.rightTold(right, 6), 0);
                }
            }
            HousingSociety x = Probe.late();
            s.due("TO behind the last day", x.rightTold(x.right(1, 6, 9, 10000), 5), 1010000);
        });
        s.test("Promise 6", "BAD;", () -> {
            s.range("home", Probe::busy, 0, 6, (x, n) -> x.right(2, n, 9, 1), BAD);
            s.range("member", Probe::busy, 0, 9, (x, n) -> x.right(2, 6, n, 1), BAD);
            s.refused("BAD ahead of STATE: days", Probe::busy, x -> x.right(0, 0, 4, 1), BAD);
            s.refused("BAD ahead of STATE: home", Probe::busy, x -> x.right(0, 7, 4, 0), BAD);
            s.refused("BAD ahead of STATE: kind", Probe::busy, x -> x.right(3, 0, 4, 0), BAD);
            s.refused("BAD ahead of FULL", Probe::full, x -> x.right(1, 3, 5, 0), BAD);
        });
    }

    private static void right6Refused() {
        s.test("Promise 6", "STATE: the MEMBER is not HERE;", () -> {
            for (int kind = 0; kind < 3; kind++) {
                int k = kind;
                s.refused("KIND " + kind, Probe::busy, x -> x.right(k, 6, 4, k == 0 ? 0 : 1), STATE);
            }
            HousingSociety x = Probe.busy();
            x.leave(9);
            s.due("who went today", x.right(0, 6, 9, 0), STATE);
            s.due("who came today", x.right(0, 6, x.member(1), 0), 8);
        });
        s.test("Promise 6", "but for GUESTS: the HOME is not EMPTY today,", () -> {
            for (int home = 0; home <= 3; home++) {
                int h = home;
                s.refused("RIGHT to HOME " + home, Probe::busy, x -> x.right(0, h, 9, 0), STATE);
                s.refused("LET of HOME " + home, Probe::busy, x -> x.right(1, h, 9, 1), STATE);
                s.due("GUEST in HOME " + home, Probe.busy().right(2, h, 9, 1), 8);
            }
            HousingSociety x = Probe.busy();
            x.day(24);
            s.due("on the last day of a LET", x.right(0, 1, 9, 0), STATE);
            x.day(1);
            s.due("on the day TO of a LET", x.right(0, 1, 9, 0), 8);
            HousingSociety y = Probe.busy();
            y.right(2, 6, 8, 9);
            s.due("a HOME with a GUEST alone", y.right(1, 6, 9, 1), 9);
            y.end(0);
            s.due("one that was left today", y.right(0, 0, 0, 0), 10);
        });
        s.test("Promise 6", "or on OFFER,", () -> {
            for (int home = 4; home <= 5; home++) {
                int h = home;
                s.refused("RIGHT", Probe::busy, x -> x.right(0, h, 9, 0), STATE);
                s.refused("LET", Probe::busy, x -> x.right(1, h, 9, 1), STATE);
                s.due("GUEST", Probe.busy().right(2, h, 9, 1), 8);
            }
            HousingSociety x = Probe.busy();
            x.withdraw(4);
            s.due("on OFFER no more", x.right(0, 4, 9, 0), 8);
            HousingSociety y = Checks.society(1, 1);
            y.offer(0);
            s.due("on OFFER to nobody", y.right(0, 0, 0, 0), STATE);
        });
        s.test("Promise 6", "or the MEMBER HOLDS one;", () -> {
            for (int member : new int[] {0, 1, 2, 3, 5}) {
                s.refused("RIGHT of MEMBER " + member, Probe::busy, x -> x.right(0, 6, member, 0), STATE);
                s.refused("LET of MEMBER " + member, Probe::busy, x -> x.right(1, 6, member, 1), STATE);
                s.due("GUEST, MEMBER " + member, Probe.busy().right(2, 6, member, 1), 8);
            }
            s.due("a GUEST HOLDS none", Probe.busy().right(0, 6, 6, 0), 8);
            HousingSociety x = Probe.busy();
            x.day(24);
            s.due("on the last day of its LET", x.right(1, 6, 1, 1), STATE);
            x.day(1);
            s.due("on the day TO of its LET", x.right(1, 6, 1, 1), 8);
        });
        s.test("Promise 6", "for a GUEST: it HOLDS that HOME.", () -> {
            int[][] held = {{0, 0}, {1, 1}, {2, 2}, {2, 3}, {3, 5}};
            for (int[] h : held) {
                s.refused("GUEST of HOME " + h[0] + ", MEMBER " + h[1], Probe::busy, x -> x.right(2, h[0], h[1], 1), STATE);
                s.due("of another HOME", Probe.busy().right(2, (h[0] + 1) % 4, h[1], 1), 8);
            }
            s.due("one that is a GUEST there", Probe.busy().right(2, 0, 6, 1), 8);
            HousingSociety x = Probe.busy();
            x.day(25);
            s.due("one that HELD that HOME", x.right(2, 1, 1, 1), 8);
        });
        s.test("Promise 6", "FULL.", () -> {
            HousingSociety x = Checks.society(3, 3);
            Probe.fillRights(x, 59);
            s.due("the last one", x.right(0, 0, 0, 0), 59);
            s.due("one more", x.right(0, 1, 1, 0), FULL);
            for (int kind = 0; kind < 3; kind++) {
                int k = kind;
                s.refused("KIND " + kind, Probe::full, y -> y.right(k, 3, 5, k == 0 ? 0 : 1), FULL);
            }
            s.refused("STATE ahead of FULL: not HERE", Probe::full, y -> y.right(2, 3, 22, 1), STATE);
            s.refused("STATE ahead of FULL: not EMPTY", Probe::full, y -> y.right(0, 0, 5, 0), STATE);
            s.refused("STATE ahead of FULL: on OFFER", Probe::full, y -> y.right(0, 11, 5, 0), STATE);
            s.refused("STATE ahead of FULL: it HOLDS one", Probe::full, y -> y.right(0, 3, 0, 0), STATE);
            s.refused("STATE ahead of FULL: it HOLDS that HOME", Probe::full, y -> y.right(2, 0, 0, 1), STATE);
        });
    }

    private static void join7() {
        s.test("Promise 7", "A RIGHT (KIND 0, in force) becomes a JOINT one with a second MEMBER: the number of the JOINT one,"
            + " from today;", () -> {
                HousingSociety x = Probe.busy();
                s.due("join", x.join(0, 9), 8);
                s.row("the JOINT one", x, (y, what) -> y.rightTold(8, what), 3, 0, 0, 9, 5, NONE, 1);
                s.due("the first HOLDS", x.memberTold(0, 4), 0);
                s.due("the second HOLDS", x.memberTold(9, 4), 0);
                s.due("who is a GUEST there can be the second", Probe.busy().join(0, 6), 8);
            });
        s.test("Promise 7", "the other one's TO is today (one that is from today, too, is not in force on any day).", () -> {
            HousingSociety x = Probe.busy();
            x.join(0, 9);
            s.due("TO", x.rightTold(0, 5), 5);
            s.due("in force", x.rightTold(0, 6), 0);
            s.due("on the day ahead", x.inForce(0, 0, 4), 0);
            s.due("today", x.inForce(0, 0, 5), 8);
            HousingSociety y = Probe.busy();
            int right = y.right(0, 6, 8, 0);
            int joint = y.join(right, 9);
            s.due("FROM", y.rightTold(right, 4), 5);
            s.due("TO", y.rightTold(right, 5), 5);
            for (int day : new int[] {0, 4, 5, 6, 2000000}) {
                s.due("on day " + day, y.inForce(0, 6, day), day < 5 ? NONE : joint);
                s.due("of the first on day " + day, y.inForce(1, 8, day), day < 5 ? NONE : joint);
                s.due("of the second on day " + day, y.inForce(1, 9, day), day < 5 ? NONE : joint);
            }
            s.due("the one that is not in force on any day can't be joined", y.join(right, 7), STATE);
        });
        s.test("Promise 7", "BAD;", () -> {
            s.range("right", Probe::busy, 0, 7, (x, n) -> x.join(n, 9), BAD);
            s.range("member", Probe::busy, 0, 9, (x, n) -> x.join(0, n), BAD);
            s.due("there are no RIGHTS", Checks.society(1, 1).join(0, 0), BAD);
            s.refused("BAD ahead of STATE: member", Probe::busy, x -> x.join(1, 10), BAD);
            s.refused("BAD ahead of STATE: right", Probe::busy, x -> x.join(8, 4), BAD);
            s.refused("BAD ahead of FULL: right", Probe::full, x -> x.join(60, 21), BAD);
            s.refused("BAD ahead of FULL: member", Probe::full, x -> x.join(0, 24), BAD);
        });
    }

    private static void join7Refused() {
        s.test("Promise 7", "STATE: it is not RIGHT, or not in force;", () -> {
            int[] others = {1, 2, 3, 4, 5, 6, 7};
            for (int right : others) {
                s.refused("RIGHT " + right, Probe::busy, x -> x.join(right, 9), STATE);
            }
            HousingSociety x = Probe.busy();
            x.end(0);
            s.due("one that ended today", x.join(0, 9), STATE);
            s.refused("STATE ahead of FULL: a JOINT one", Probe::full, y -> y.join(2, 21), STATE);
            s.refused("STATE ahead of FULL: not in force", Probe::full, y -> y.join(1, 21), STATE);
        });
        s.test("Promise 7", "the second one is not HERE, or HOLDS a HOME;", () -> {
            s.refused("not HERE", Probe::busy, x -> x.join(0, 4), STATE);
            for (int member : new int[] {0, 1, 2, 3, 5}) {
                s.refused("MEMBER " + member + " HOLDS one", Probe::busy, x -> x.join(0, member), STATE);
            }
            HousingSociety x = Probe.busy();
            x.day(24);
            s.due("on the last day of its LET", x.join(0, 1), STATE);
            x.day(1);
            s.due("on the day TO of its LET", x.join(0, 1), 8);
            s.refused("STATE ahead of FULL: not HERE", Probe::full, y -> y.join(0, 22), STATE);
            s.refused("STATE ahead of FULL: HOLDS one", Probe::full, y -> y.join(0, 2), STATE);
        });
        s.test("Promise 7", "FULL.", () -> {
            s.refused("FULL", Probe::full, x -> x.join(0, 21), FULL);
            HousingSociety x = Checks.society(3, 4);
            x.right(0, 0, 0, 0);
            x.right(0, 1, 1, 0);
            Probe.fillRights(x, 59);
            s.due("the last one", x.join(0, 2), 59);
            s.due("one more", x.join(1, 3), FULL);
        });
    }

    private static void end8() {
        s.test("Promise 8", "A RIGHT in force ends: its TO is today: 1.", () -> {
            for (int right : new int[] {0, 1, 3, 6, 7}) {
                HousingSociety x = Probe.busy();
                s.due("RIGHT " + right, x.end(right), 1);
                s.due("TO", x.rightTold(right, 5), 5);
                s.due("in force", x.rightTold(right, 6), 0);
                s.due("no RIGHT comes of it", x.count(3), 8);
            }
            HousingSociety x = Probe.busy();
            x.end(3);
            s.due("of a JOINT one the first HOLDS", x.memberTold(2, 4), NONE);
            s.due("of a JOINT one the second HOLDS", x.memberTold(3, 4), NONE);
            int today = x.right(0, 6, 9, 0);
            s.due("one that is from today", x.end(today), 1);
            s.due("it was on no day", x.inForce(0, 6, 5), NONE);
            s.due("when all is full", Probe.full().end(59), 1);
        });
        s.test("Promise 8", "BAD;", () -> {
            s.range("right", Probe::busy, 0, 7, HousingSociety::end, BAD);
            s.due("there are no RIGHTS", Checks.society(1, 1).end(0), BAD);
            s.refused("the first behind all", Probe::full, x -> x.end(60), BAD);
        });
        s.test("Promise 8", "STATE: it is not in force.", () -> {
            for (int right : new int[] {2, 4, 5}) {
                s.refused("RIGHT " + right, Probe::busy, x -> x.end(right), STATE);
            }
            HousingSociety x = Probe.busy();
            x.day(14);
            s.due("on the day ahead of TO", x.rightTold(6, 6), 1);
            x.day(1);
            s.due("on the day TO", x.end(6), STATE);
            s.due("TO stays", x.rightTold(6, 5), 20);
            x.end(0);
            s.due("one that ended today", x.end(0), STATE);
        });
    }

    private static void leave9() {
        s.test("Promise 9", "A MEMBER goes today (it dies, or leaves): the number of the LEFT RIGHT that comes of it; NONE.",
            () -> {
                int[] answers = {NONE, NONE, 8, 8, STATE, NONE, NONE, NONE, NONE, NONE};
                for (int member = 0; member < answers.length; member++) {
                    HousingSociety x = Probe.busy();
                    s.due("MEMBER " + member, x.leave(member), answers[member]);
                    s.due("it went on", x.memberTold(member, 2), member == 4 ? 3 : 5);
                    s.due("it is HERE", x.memberTold(member, 6), 0);
                    s.due("RIGHTS", x.count(3), answers[member] == 8 ? 9 : 8);
                }
                HousingSociety x = new HousingSociety();
                x.member(1);
                s.due("on the day on which it came", x.leave(0), NONE);
                s.due("it went on day 0", x.memberTold(0, 2), 0);
                s.due("it is HERE", x.memberTold(0, 6), 0);
            });
        s.test("Promise 9", "It WAITS, WISHES no more;", () -> {
            HousingSociety x = Probe.busy();
            x.leave(0);
            s.due("WAITS", x.memberTold(0, 3), NONE);
            s.due("who WAIT", x.count(9), 3);
            s.due("in THE ORDER", x.order(4, 3), NONE);
            s.due("WISHES", x.memberTold(0, 5), 0);
            s.due("another's WISHES", x.memberTold(2, 5), 1);
            s.due("another WAITS", x.memberTold(6, 3), 0);
        });
        s.test("Promise 9", "its RIGHTS in force, GUESTS too, have TO today;", () -> {
            HousingSociety x = Probe.busy();
            x.right(2, 3, 0, 10);
            x.right(2, 6, 0, 1);
            x.leave(0);
            s.due("its RIGHT", x.rightTold(0, 5), 5);
            s.due("its GUEST right", x.rightTold(8, 5), 5);
            s.due("another GUEST right of it", x.rightTold(9, 5), 5);
            s.due("a GUEST in its HOME stays", x.rightTold(6, 5), 20);
            s.due("its HOME is EMPTY", x.homeTold(0, 3), 1);
            x.leave(1);
            s.due("a LET", x.rightTold(1, 5), 5);
            x.leave(5);
            s.due("a LEFT one", x.rightTold(7, 5), 5);
            s.due("one that was not in force", x.rightTold(5, 5), 3);
            HousingSociety y = Probe.busy();
            y.day(20);
            y.leave(6);
            s.due("one whose TO was ahead of today", y.rightTold(6, 5), 20);
            HousingSociety z = Checks.society(1, 1);
            Probe.fillRights(z, 60);
            z.leave(0);
            s.due("as many GUEST rights as there can be", z.count(4), 0);
            s.due("the first of them", z.rightTold(0, 5), 0);
            s.due("the last of them", z.rightTold(59, 5), 0);
        });
        s.test("Promise 9", "of a JOINT one the other MEMBER has a LEFT RIGHT to the HOME from today.", () -> {
            for (int goes = 2; goes <= 3; goes++) {
                HousingSociety x = Probe.busy();
                s.due("leave", x.leave(goes), 8);
                int stays = 5 - goes;
                s.row("the LEFT one", x, (y, what) -> y.rightTold(8, what), 4, 2, stays, NONE, 5, NONE, 1);
                s.due("TO of the JOINT one", x.rightTold(3, 5), 5);
                s.due("the HOME is EMPTY", x.homeTold(2, 3), 0);
                s.due("who stays HOLDS it", x.memberTold(stays, 4), 2);
                s.due("who stays goes, too", x.leave(stays), NONE);
                s.due("then the HOME is EMPTY", x.homeTold(2, 3), 1);
                s.due("the LEFT one was on no day", x.inForce(0, 2, 5), NONE);
            }
            s.due("of one that was JOINT, and is not in force", Probe.busy().leave(5), NONE);
        });
    }

    private static void leave9Refused() {
        s.test("Promise 9", "(A refused OFFER counts no more.)", () -> {
            HousingSociety x = Probe.busy();
            s.due("it is to who comes behind the one that refused", x.homeTold(4, 4), 7);
            x.leave(8);
            s.due("who refused goes", x.homeTold(4, 4), 7);
            x.leave(7);
            s.due("the one to whom it is goes", x.homeTold(4, 4), 6);
            s.due("the other OFFER", x.homeTold(5, 4), 6);
            x.leave(6);
            x.leave(0);
            s.due("all go", x.homeTold(4, 4), NONE);
            s.due("it is there still", x.homeTold(4, 5), 1);
        });
        s.test("Promise 9", "BAD;", () -> {
            s.range("member", Probe::busy, 0, 9, HousingSociety::leave, BAD);
            s.due("there are none", new HousingSociety().leave(0), BAD);
            s.refused("BAD ahead of FULL", Probe::full, x -> x.leave(24), BAD);
        });
        s.test("Promise 9", "STATE: it is not HERE;", () -> {
            s.refused("who went days ago", Probe::busy, x -> x.leave(4), STATE);
            HousingSociety x = Probe.busy();
            x.leave(9);
            s.due("who went today", x.leave(9), STATE);
            s.refused("when all is full", Probe::full, y -> y.leave(22), STATE);
        });
        s.test("Promise 9", "FULL: a LEFT one has no room.", () -> {
            s.refused("the first of a JOINT one", Probe::full, x -> x.leave(1), FULL);
            s.refused("the second of a JOINT one", Probe::full, x -> x.leave(2), FULL);
            s.due("who has a RIGHT needs no room", Probe.full().leave(0), NONE);
            s.due("who has GUEST rights needs no room", Probe.full().leave(23), NONE);
            s.due("who has nothing needs no room", Probe.full().leave(7), NONE);
            HousingSociety x = Checks.society(2, 3);
            x.right(0, 0, 0, 0);
            x.join(0, 1);
            Probe.fillRights(x, 59);
            s.due("the last room", x.leave(0), 59);
        });
    }

    private static void rightTold10() {
        s.test("Promise 10", "Of a RIGHT: 0 KIND, 1 HOME, 2 MEMBER, 3 the second one (NONE), 4 FROM, 5 TO (NONE: open), 6 whether"
            + " it is in force today (1, 0).", () -> {
                long[][] told = {{0, 0, 0, NONE, 0, NONE, 1}, {1, 1, 1, NONE, 0, 30, 1}, {0, 2, 2, NONE, 0, 0, 0},
                    {3, 2, 2, 3, 0, NONE, 1}, {0, 3, 4, NONE, 0, 0, 0}, {3, 3, 4, 5, 0, 3, 0}, {2, 0, 6, NONE, 0, 20, 1},
                    {4, 3, 5, NONE, 3, NONE, 1}};
                for (int right = 0; right < told.length; right++) {
                    int r = right;
                    s.row("RIGHT " + right, Probe.busy(), (x, what) -> x.rightTold(r, what), told[right]);
                }
                HousingSociety x = Probe.busy();
                x.day(14);
                s.due("on the day ahead of TO", x.rightTold(6, 6), 1);
                x.day(1);
                s.due("on the day TO", x.rightTold(6, 6), 0);
            });
        s.test("Promise 10", "BAD.", () -> {
            s.range("right", Probe::busy, 0, 7, (x, n) -> x.rightTold(n, 0), BAD);
            s.range("what", Probe::busy, 0, 6, (x, n) -> x.rightTold(0, n), BAD);
            s.range("the last of all", Probe::full, 0, 59, (x, n) -> x.rightTold(n, 6), BAD);
            s.due("there are none", new HousingSociety().rightTold(0, 0), BAD);
        });
    }

    private static void inForce11() {
        s.test("Promise 11", "The RIGHT (not GUEST) in force of a HOME (what 0), of a MEMBER (1) on a day (0 .. 2000000).", () -> {
            int[][] ofHomes = {{0, 0, 0}, {0, 2000000, 0}, {1, 0, 1}, {1, 29, 1}, {1, 30, NONE}, {2, 0, 3}, {2, 2000000, 3},
                {3, 0, 5}, {3, 2, 5}, {3, 3, 7}, {3, 2000000, 7}, {6, 5, NONE}};
            for (int[] h : ofHomes) {
                s.due("of HOME " + h[0] + " on " + h[1], Probe.busy().inForce(0, h[0], h[1]), h[2]);
            }
            int[][] ofMembers = {{0, 0, 0}, {0, 2000000, 0}, {1, 29, 1}, {1, 30, NONE}, {2, 0, 3}, {3, 0, 3}, {4, 2, 5},
                {4, 3, NONE}, {5, 2, 5}, {5, 3, 7}, {6, 5, NONE}, {9, 5, NONE}};
            for (int[] m : ofMembers) {
                s.due("of MEMBER " + m[0] + " on " + m[1], Probe.busy().inForce(1, m[0], m[1]), m[2]);
            }
            s.range("day, of a HOME", Probe::busy, 0, 2000000, (x, n) -> x.inForce(0, 0, n), BAD);
            s.range("day, of a MEMBER", Probe::busy, 0, 2000000, (x, n) -> x.inForce(1, 0, n), BAD);
        });
        s.test("Promise 11", "NONE.", () -> {
            HousingSociety x = Checks.society(1, 1);
            s.due("of a HOME", x.inForce(0, 0, 0), NONE);
            s.due("of a MEMBER", x.inForce(1, 0, 0), NONE);
            x.right(2, 0, 0, 9);
            s.due("of a HOME with a GUEST", x.inForce(0, 0, 0), NONE);
            s.due("of a GUEST", x.inForce(1, 0, 0), NONE);
            x.day(3);
            x.right(0, 0, 0, 0);
            s.due("on the day ahead of FROM", x.inForce(0, 0, 2), NONE);
            s.due("on the day FROM", x.inForce(0, 0, 3), 1);
            x.end(1);
            s.due("one that is on no day", x.inForce(0, 0, 3), NONE);
        });
        s.test("Promise 11", "BAD.", () -> {
            s.range("what", Probe::busy, 0, 1, (x, n) -> x.inForce(n, 0, 0), BAD);
            s.range("home", Probe::busy, 0, 6, (x, n) -> x.inForce(0, n, 0), BAD);
            s.range("member", Probe::busy, 0, 9, (x, n) -> x.inForce(1, n, 0), BAD);
            s.due("there are no HOMES", Checks.society(0, 1).inForce(0, 0, 0), BAD);
            s.due("there are no MEMBERS", Checks.society(1, 0).inForce(1, 0, 0), BAD);
        });
    }

    private static void homeTold12() {
        s.test("Promise 12", "Of a HOME: 0 STAIR, 1 ROOMS, 2 SHARE,", () -> {
            s.row("the first", Probe.busy(), (x, what) -> x.homeTold(0, what), 0, 1, 1);
            s.row("the one with the most", Probe.busy(), (x, what) -> x.homeTold(3, what), 3, 6, 100);
            s.row("the last", Probe.busy(), (x, what) -> x.homeTold(6, what), 2, 2, 2);
        });
        s.test("Promise 12", "3 whether it is EMPTY today (1, 0),", () -> {
            s.row("HOME", Probe.busy(), (x, home) -> x.homeTold(home, 3), 0, 0, 0, 0, 1, 1, 1);
            HousingSociety x = Probe.busy();
            x.day(24);
            s.due("on the last day of a LET", x.homeTold(1, 3), 0);
            x.day(1);
            s.due("on the day TO of a LET", x.homeTold(1, 3), 1);
        });
        s.test("Promise 12", "6 GUESTS in force.", () -> {
            HousingSociety x = Probe.busy();
            s.row("HOME", x, (y, home) -> y.homeTold(home, 6), 1, 0, 0, 0, 0, 0, 0);
            x.right(2, 0, 9, 1);
            x.right(2, 0, 9, 1);
            s.due("two more, of one MEMBER", x.homeTold(0, 6), 3);
            x.day(1);
            s.due("on their day TO", x.homeTold(0, 6), 1);
            x.day(13);
            s.due("on the last day of the other", x.homeTold(0, 6), 1);
            x.day(1);
            s.due("on its day TO", x.homeTold(0, 6), 0);
            HousingSociety y = Checks.society(1, 1);
            Probe.fillRights(y, 60);
            s.due("as many as there can be", y.homeTold(0, 6), 60);
        });
        s.test("Promise 12", "BAD.", () -> {
            s.range("home", Probe::busy, 0, 6, (x, n) -> x.homeTold(n, 0), BAD);
            s.range("what", Probe::busy, 0, 6, (x, n) -> x.homeTold(0, n), BAD);
            s.range("the last of all", Probe::full, 0, 11, (x, n) -> x.homeTold(n, 5), BAD);
            s.due("there are none", new HousingSociety().homeTold(0, 0), BAD);
        });
    }

    private static void homeTold12Offers() {
        s.test("Promise 12", "4 to whom it is on OFFER (NONE: it is not, or nobody is left),", () -> {
            HousingSociety x = Probe.busy();
            s.row("HOME", x, (y, home) -> y.homeTold(home, 4), NONE, NONE, NONE, NONE, 7, 8, NONE);
            for (int next : new int[] {6, 0, NONE}) {
                x.take(4, false);
                s.due("behind a refusal", x.homeTold(4, 4), next);
            }
            s.due("it is on OFFER still", x.homeTold(4, 5), 1);
            x.wait(9);
            s.due("one more WAITS", x.homeTold(4, 4), 9);
            HousingSociety y = Checks.society(1, 1);
            y.offer(0);
            s.due("nobody WAITS", y.homeTold(0, 4), NONE);
        });
        s.test("Promise 12", "5 whether it is on OFFER,", () -> {
            HousingSociety x = Probe.busy();
            s.row("HOME", x, (y, home) -> y.homeTold(home, 5), 0, 0, 0, 0, 1, 1, 0);
            x.take(4, true);
            s.due("it was taken", x.homeTold(4, 5), 0);
            x.withdraw(5);
            s.due("it was withdrawn", x.homeTold(5, 5), 0);
            x.offer(5);
            s.due("it is on OFFER again", x.homeTold(5, 5), 1);
            x.day(10000);
            s.due("it stays", x.homeTold(5, 5), 1);
        });
    }

    private static void memberTold13() {
        s.test("Promise 13", "Of a MEMBER: 0 FAMILY, 1 the day on which it came,", () -> {
            HousingSociety x = Probe.busy();
            s.row("FAMILY", x, (y, member) -> y.memberTold(member, 0), 1, 2, 3, 4, 5, 6, 7, 8, 9, 1);
            s.due("it came", x.memberTold(9, 1), 0);
            s.due("who came today", x.memberTold(x.member(7), 1), 5);
            s.due("FAMILY of the last one", x.memberTold(10, 0), 7);
            HousingSociety late = Probe.late();
            s.due("on the last day", late.memberTold(late.member(1), 1), 1000000);
        });
        s.test("Promise 13", "2 on which it went (NONE),", () -> {
            HousingSociety x = Probe.busy();
            s.due("it is HERE", x.memberTold(0, 2), NONE);
            s.due("it went", x.memberTold(4, 2), 3);
            x.leave(9);
            s.due("it went today", x.memberTold(9, 2), 5);
        });
        s.test("Promise 13", "3 since when it WAITS (NONE),", () -> {
            HousingSociety x = Probe.busy();
            s.row("MEMBER", x, (y, member) -> y.memberTold(member, 3), 3, NONE, NONE, NONE, NONE, NONE, 0, 3, 5, NONE);
            x.take(5, true);
            s.due("it took an OFFER", x.memberTold(8, 3), NONE);
        });
        s.test("Promise 13", "4 the HOME that it HOLDS (NONE),", () -> {
            HousingSociety x = Probe.busy();
            s.row("MEMBER", x, (y, member) -> y.memberTold(member, 4), 0, 1, 2, 2, NONE, 3, NONE, NONE, NONE, NONE);
            x.day(24);
            s.due("on the last day of its LET", x.memberTold(1, 4), 1);
            x.day(1);
            s.due("on the day TO of its LET", x.memberTold(1, 4), NONE);
        });
        s.test("Promise 13", "5 how many HOMES it WISHES,", () -> {
            HousingSociety x = Checks.society(12, 1);
            s.due("none", x.memberTold(0, 5), 0);
            for (int home = 0; home < 12; home++) {
                x.wish(0, home, true);
                x.wish(0, home, true);
                s.due("some", x.memberTold(0, 5), home + 1);
            }
            x.wish(0, 11, false);
            x.wish(0, 11, false);
            s.due("one less", x.memberTold(0, 5), 11);
        });
    }

    private static void memberTold13Refused() {
        s.test("Promise 13", "6 whether it is HERE.", () -> {
            HousingSociety x = Probe.busy();
            s.row("MEMBER", x, (y, member) -> y.memberTold(member, 6), 1, 1, 1, 1, 0, 1, 1, 1, 1, 1);
            s.due("who came today", x.memberTold(x.member(1), 6), 1);
            x.leave(0);
            s.due("who went today", x.memberTold(0, 6), 0);
            x.day(1);
            s.due("on the day behind", x.memberTold(0, 6), 0);
            s.due("who stays", x.memberTold(10, 6), 1);
        });
        s.test("Promise 13", "BAD.", () -> {
            s.range("member", Probe::busy, 0, 9, (x, n) -> x.memberTold(n, 0), BAD);
            s.range("what", Probe::busy, 0, 6, (x, n) -> x.memberTold(0, n), BAD);
            s.range("the last of all", Probe::full, 0, 23, (x, n) -> x.memberTold(n, 6), BAD);
            s.due("there are none", new HousingSociety().memberTold(0, 0), BAD);
        });
    }
}
