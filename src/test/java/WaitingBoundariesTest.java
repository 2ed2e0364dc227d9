/** The sentences of promises 22 to 31, each with a test of its own: the first and last that is allowed, and each refusal. */
public final class WaitingBoundariesTest {
    private static final int NONE = HousingSociety.NONE, BAD = HousingSociety.BAD, STATE = HousingSociety.STATE,
            FULL = HousingSociety.FULL;
    private static final long NO = HousingSociety.NO;
    private static final int LEAST = Integer.MIN_VALUE, MOST = Integer.MAX_VALUE;

    private static Sentences s;

    public static void main(String[] args) throws Exception {
        s = new Sentences(args);
        wait22();
        points23();
        order24();
        offer25();
        take26();
        take26No();
        take26Refused();
        withdraw27();
        wish28();
        best29();
        moves30();
        change31();
        change31Full();
        String[] places = new String[10];
        for (int i = 0; i < places.length; i++) {
            places[i] = "Promise " + (i + 22);
        }
        s.finish("WaitingBoundariesTest", places);
    }

    private static void wait22() {
        s.test("Promise 22", "A MEMBER WAITS from today on: 1;", () -> {
            HousingSociety x = Probe.busy();
            s.due("who has nothing", x.wait(9), 1);
            s.due("since", x.memberTold(9, 3), 5);
            s.due("who HOLDS a HOME", x.wait(1), 1);
            s.due("who came today", x.wait(x.member(1)), 1);
            s.due("who WAIT", x.count(9), 7);
            x.take(5, true);
            x.day(1);
            s.due("who took an OFFER WAITS again", x.wait(8), 1);
            s.due("since the new day", x.memberTold(8, 3), 6);
            HousingSociety y = Checks.society(1, 1);
            s.due("on day 0", y.wait(0), 1);
            s.due("since day 0", y.memberTold(0, 3), 0);
            HousingSociety late = Probe.late();
            late.wait(9);
            s.due("on the last day", late.memberTold(9, 3), 1000000);
        });
        s.test("Promise 22", "0: it does.", () -> {
            s.refused("since today", Probe::busy, x -> x.wait(8), 0);
            s.refused("since days", Probe::busy, x -> x.wait(7), 0);
            s.refused("since day 0", Probe::busy, x -> x.wait(6), 0);
        });
        s.test("Promise 22", "BAD;", () -> {
            s.range("member", Probe::busy, 0, 9, HousingSociety::wait, BAD);
            s.due("there are none", new HousingSociety().wait(0), BAD);
        });
        s.test("Promise 22", "STATE: it is not HERE.", () -> {
            s.refused("who went days ago", Probe::busy, x -> x.wait(4), STATE);
            HousingSociety x = Probe.busy();
            x.leave(9);
            s.due("who went today", x.wait(9), STATE);
            x.leave(8);
            s.due("who WAITED and went", x.wait(8), STATE);
        });
    }

    private static void points23() {
        s.test("Promise 23", "POINTS of a MEMBER for a HOME (what 0), its may (1), by the TEXT IN FORCE.", () -> {
            HousingSociety x = Probe.busy();
            s.row("POINTS by TEXT 2", x, (y, member) -> y.points(member, 0, 0), 12, 20, 30, 40, 50, 60, 75, 82, 90, 10);
            s.due("may by TEXT 2", x.points(0, 6, 1), 1);
            x.day(44);
            s.due("on the day ahead of TEXT 3", x.points(6, 0, 0), 49 + 70);
            x.day(1);
            s.due("on the day of TEXT 3", x.points(6, 0, 0), -50);
            s.row("may by TEXT 3", x, (y, member) -> y.points(member, 0, 1), 1, 2, 3, 4, 5, 6, 7, 8, 9, 1);
            s.due("of who does not WAIT", x.points(9, 0, 0), 0);
            s.due("of a HOME that is not EMPTY", x.points(6, 2, 0), -50);
        });
        s.test("Promise 23", "NO: no such.", () -> {
            for (int what = 0; what <= 1; what++) {
                int w = what;
                s.range("member", Probe::busy, 0, 9, (x, n) -> x.points(n, 0, w), NO);
                s.range("home", Probe::busy, 0, 6, (x, n) -> x.points(0, n, w), NO);
            }
            s.range("what", Probe::busy, 0, 1, (x, n) -> x.points(0, 0, n), NO);
            s.due("there are no MEMBERS", Checks.society(1, 0).points(0, 0, 0), NO);
            s.due("there are no HOMES", Checks.society(0, 1).points(0, 0, 0), NO);
        });
    }

    private static void order24() {
        s.test("Promise 24", "The i-th of THE ORDER.", () -> {
            s.row("THE ORDER", Probe.busy(), (x, i) -> x.order(6, i), 8, 7, 6, 0);
            s.row("of a HOME that is not EMPTY", Probe.busy(), (x, i) -> x.order(0, i), 8, 7, 6, 0);
            s.row("of a HOME that one refused", Probe.busy(), (x, i) -> x.order(4, i), 8, 7, 6, 0);
            HousingSociety x = Checks.society(1, 24);
            for (int member = 23; member >= 0; member--) {
                x.wait(member);
            }
            for (int i = 0; i < 24; i++) {
                s.due("all WAIT, " + i, x.order(0, i), i);
            }
            s.due("behind all", x.order(0, 24), NONE);
        });
        s.test("Promise 24", "NONE.", () -> {
            for (int i : new int[] {LEAST, -1, 4, 5, 24, MOST}) {
                s.refused("order(6, " + i + ")", Probe::busy, x -> x.order(6, i), NONE);
            }
            s.due("nobody WAITS", Checks.society(1, 1).order(0, 0), NONE);
        });
        s.test("Promise 24", "BAD: no such HOME.", () -> {
            s.range("home", Probe::busy, 0, 6, (x, n) -> x.order(n, 0), BAD);
            s.refused("with no such i", Probe::busy, x -> x.order(7, -1), BAD);
            s.due("there are none", new HousingSociety().order(0, 0), BAD);
        });
    }

    private static void offer25() {
        s.test("Promise 25", "A HOME is on OFFER: to whom (NONE: to nobody).", () -> {
            HousingSociety x = Probe.busy();
            s.due("to the first", x.offer(6), 8);
            s.due("OFFERS", x.count(10), 3);
            HousingSociety y = Checks.society(12, 2);
            s.due("to nobody", y.offer(0), NONE);
            s.due("it is on OFFER", y.homeTold(0, 5), 1);
            y.wait(1);
            for (int home = 1; home < 12; home++) {
                s.due("each HOME", y.offer(home), 1);
            }
            s.due("all are on OFFER", y.count(10), 12);
            HousingSociety z = Probe.busy();
            z.withdraw(4);
            s.due("another OFFER of a HOME: who refused the first", z.offer(4), 8);
            z.right(2, 6, 9, 3);
            s.due("a HOME with a GUEST", z.offer(6), 8);
        });
        s.test("Promise 25", "BAD;", () -> {
            s.range("home", Probe::busy, 0, 6, HousingSociety::offer, BAD);
            s.due("there are none", new HousingSociety().offer(0), BAD);
        });
        s.test("Promise 25", "STATE: it is not EMPTY, or on OFFER.", () -> {
            for (int home = 0; home < 6; home++) {
                int h = home;
                s.refused("HOME " + home, Probe::busy, x -> x.offer(h), STATE);
            }
            HousingSociety x = Probe.busy();
            x.day(24);
            s.due("on the last day of a LET", x.offer(1), STATE);
            x.day(1);
            s.due("on the day TO of a LET", x.offer(1) == STATE ? 1 : 0, 0);
            x.end(0);
            s.due("one that was left today", x.offer(0) == STATE ? 1 : 0, 0);
            HousingSociety y = Checks.society(1, 0);
            y.offer(0);
            s.due("on OFFER to nobody", y.offer(0), STATE);
        });
    }

    private static void take26() {
        s.test("Promise 26", "The OFFER is answered by the one to whom it is:", () -> {
            HousingSociety x = Probe.busy();
            s.due("the one to whom it is", x.homeTold(4, 4), 7);
            s.due("yes", x.take(4, true), 8);
            s.due("it has the RIGHT", x.rightTold(8, 2), 7);
            HousingSociety y = Probe.busy();
            y.take(4, false);
            y.take(5, false);
            s.due("who refused one is not asked again", y.homeTold(4, 4), 6);
            s.due("who refused one is asked for the other", y.homeTold(5, 4), 7);
            HousingSociety z = Probe.busy();
            z.family(9, 9);
            z.wait(9);
            z.family(6, 9);
            s.due("by POINTS as they are today", z.take(4, true), 8);
            s.due("the first of them", z.rightTold(8, 2), 6);
        });
        s.test("Promise 26", "yes: what it HELD has TO today", () -> {
            int[][] heldBy = {{0, 0}, {1, 1}, {5, 7}};
            for (int[] h : heldBy) {
                HousingSociety x = onlyWaiting(h[0]);
                s.due("yes", x.take(4, true), 8);
                s.due("TO of RIGHT " + h[1], x.rightTold(h[1], 5), 5);
                s.due("no LEFT one", x.count(3), 9);
            }
            HousingSociety x = Probe.busy();
            x.take(4, true);
            s.due("who HELD nothing", x.count(4), 6);
            HousingSociety y = Probe.busy();
            y.family(6, 9);
            s.due("a GUEST", y.take(4, true), 8);
            s.due("its GUEST right stays", y.rightTold(6, 5), 20);
        });
        s.test("Promise 26", "(of a JOINT one the other MEMBER has a LEFT RIGHT from today, which comes ahead),", () -> {
            for (int goes = 2; goes <= 3; goes++) {
                int stays = 5 - goes;
                HousingSociety x = onlyWaiting(goes);
                s.due("yes", x.take(4, true), 9);
                s.row("the LEFT one", x, (y, what) -> y.rightTold(8, what), 4, 2, stays, NONE, 5, NONE, 1);
                s.due("the one who took", x.rightTold(9, 2), goes);
                s.due("TO of the JOINT one", x.rightTold(3, 5), 5);
                s.due("who took HOLDS", x.memberTold(goes, 4), 4);
                s.due("who stays HOLDS", x.memberTold(stays, 4), 2);
            }
        });
        s.test("Promise 26", "it has a RIGHT (KIND 0) from today, WAITS no more, there is no OFFER any more: the RIGHT's number.",
            () -> {
                HousingSociety x = Probe.busy();
                s.due("the number", x.take(4, true), 8);
                s.row("the RIGHT", x, (y, what) -> y.rightTold(8, what), 0, 4, 7, NONE, 5, NONE, 1);
                s.due("WAITS", x.memberTold(7, 3), NONE);
                s.due("who WAIT", x.count(9), 3);
                s.due("on OFFER", x.homeTold(4, 5), 0);
                s.due("OFFERS", x.count(10), 1);
                s.due("the other OFFER", x.homeTold(5, 4), 8);
                s.due("EMPTY", x.homeTold(4, 3), 0);
            });
    }

    /** As busy, and this MEMBER alone WAITS. */
    private static HousingSociety onlyWaiting(int member) {
        HousingSociety x = Probe.busy();
        for (int waiting : new int[] {8, 7, 6}) {
            x.leave(waiting);
        }
        if (member != 0) {
            x.leave(0);
        }
        x.wait(member);
        return x;
    }

    private static void take26No() {
        s.test("Promise 26", "No: it refused: to whom it is then (NONE).", () -> {
            HousingSociety x = Probe.busy();
            s.row("no", x, (y, i) -> y.take(4, false), 6, 0, NONE);
            s.due("it is on OFFER still", x.homeTold(4, 5), 1);
            s.due("who refused WAITS still", x.memberTold(7, 3), 3);
            s.due("the other OFFER", x.homeTold(5, 4), 8);
            x.wait(9);
            s.due("who comes to WAIT is asked", x.homeTold(4, 4), 9);
            x.day(1);
            s.due("a refusal stays on other days", x.take(4, false), NONE);
            HousingSociety y = Checks.society(1, 24);
            for (int member = 0; member < 24; member++) {
                y.wait(member);
            }
            y.offer(0);
            for (int member = 0; member < 24; member++) {
                s.due("all refuse", y.take(0, false), member == 23 ? NONE : member + 1);
            }
            HousingSociety z = Probe.busy();
            z.take(4, false);
            z.withdraw(5);
            z.withdraw(4);
            s.due("with a new OFFER refusals are gone", z.offer(4), 8);
            HousingSociety u = Probe.busy();
            u.take(5, true);
            u.wait(8);
            s.due("who refused, took another HOME and WAITS again", u.homeTold(4, 4), 7);
            u.take(4, false);
            u.take(4, false);
            s.due("it did refuse this OFFER", u.take(4, false), NONE);
        });
        s.test("Promise 26", "BAD;", () -> {
            for (boolean yes : new boolean[] {true, false}) {
                s.range("home", Probe::busy, 0, 6, (x, n) -> x.take(n, yes), BAD);
                s.due("there are none", new HousingSociety().take(0, yes), BAD);
                s.refused("BAD ahead of FULL", Probe::full, x -> x.take(12, yes), BAD);
            }
        });
    }

    private static HousingSociety refusedByAll() {
        HousingSociety x = Probe.busy();
        for (int i = 0; i < 3; i++) {
            x.take(4, false);
        }
        return x;
    }

    private static HousingSociety fullOfNobody() {
        HousingSociety x = Probe.full();
        x.take(11, false);
        return x;
    }

    private static void take26Refused() {
        s.test("Promise 26", "STATE: it is not on OFFER, or to nobody;", () -> {
            for (boolean yes : new boolean[] {true, false}) {
                for (int home : new int[] {0, 1, 2, 3, 6}) {
                    s.refused("HOME " + home, Probe::busy, x -> x.take(home, yes), STATE);
                }
                s.refused("all refused", WaitingBoundariesTest::refusedByAll, x -> x.take(4, yes), STATE);
                HousingSociety x = Checks.society(1, 1);
                x.offer(0);
                s.due("nobody WAITS", x.take(0, yes), STATE);
                s.refused("STATE ahead of FULL: not on OFFER", Probe::full, y -> y.take(3, yes), STATE);
                s.refused("STATE ahead of FULL: to nobody", WaitingBoundariesTest::fullOfNobody, y -> y.take(11, yes), STATE);
            }
        });
        s.test("Promise 26", "FULL (yes).", () -> {
            s.refused("yes", Probe::full, x -> x.take(11, true), FULL);
            s.due("no is not refused", Probe.full().take(11, false), NONE);
            for (int rights = 57; rights <= 59; rights++) {
                for (int taker : new int[] {1, 2, 3}) {
                    HousingSociety x = jointAndFree(taker, rights);
                    boolean fits = rights + (taker == 3 ? 1 : 2) <= 60;
                    s.due(rights + " RIGHTS, taken by " + taker, x.take(2, true), fits ? rights + (taker == 3 ? 0 : 1) : FULL);
                    s.due("RIGHTS", x.count(3), fits ? rights + (taker == 3 ? 1 : 2) : rights);
                }
            }
            s.refused("a LEFT one and no RIGHT has room", () -> jointAndFree(1, 59), x -> x.take(2, true), FULL);
            s.refused("a LEFT one and no RIGHT has room", () -> jointAndFree(2, 59), x -> x.take(2, true), FULL);
        });
    }

    /** A JOINT RIGHT of 1 and 2, HOME 2 on OFFER to one that WAITS, and so many RIGHTS. */
    private static HousingSociety jointAndFree(int taker, int rights) {
        HousingSociety x = Checks.society(4, 5);
        x.right(0, 1, 1, 0);
        x.join(0, 2);
        x.wait(taker);
        x.offer(2);
        Probe.fillRights(x, rights);
        return x;
    }

    private static void withdraw27() {
        s.test("Promise 27", "There is no OFFER of a HOME any more: 1.", () -> {
            HousingSociety x = Probe.busy();
            s.due("withdraw", x.withdraw(4), 1);
            s.due("on OFFER", x.homeTold(4, 5), 0);
            s.due("to whom", x.homeTold(4, 4), NONE);
            s.due("OFFERS", x.count(10), 1);
            s.due("the other one", x.homeTold(5, 5), 1);
            s.due("EMPTY", x.homeTold(4, 3), 1);
            HousingSociety y = refusedByAll();
            s.due("an OFFER to nobody", y.withdraw(4), 1);
        });
        s.test("Promise 27", "BAD;", () -> {
            s.range("home", Probe::busy, 0, 6, HousingSociety::withdraw, BAD);
            s.due("there are none", new HousingSociety().withdraw(0), BAD);
        });
        s.test("Promise 27", "STATE: there is none.", () -> {
            for (int home : new int[] {0, 1, 2, 3, 6}) {
                s.refused("HOME " + home, Probe::busy, x -> x.withdraw(home), STATE);
            }
            HousingSociety x = Probe.busy();
            x.withdraw(4);
            s.due("one that was withdrawn", x.withdraw(4), STATE);
            x.take(5, true);
            s.due("one that was taken", x.withdraw(5), STATE);
        });
    }

    private static void wish28() {
        s.test("Promise 28", "A MEMBER WISHES a HOME (true), or not: 1 if it was otherwise, else 0.", () -> {
            HousingSociety x = Checks.society(12, 24);
            for (int home = 0; home < 12; home++) {
                s.due("not, at first", x.wish(23, home, false), 0);
                s.due("WISHES", x.wish(23, home, true), 1);
                s.due("WISHES already", x.wish(23, home, true), 0);
            }
            s.due("how many", x.memberTold(23, 5), 12);
            for (int home = 0; home < 12; home++) {
                s.due("another's", x.wish(22, home, false), 0);
                s.due("no more", x.wish(23, home, false), 1);
                s.due("no more already", x.wish(23, home, false), 0);
                s.due("how many", x.memberTold(23, 5), 11 - home);
            }
            HousingSociety y = Probe.busy();
            s.due("its own HOME", y.wish(0, 0, true), 1);
            s.due("by a LET", y.wish(1, 6, true), 1);
            s.due("who HOLDS nothing", y.wish(9, 6, true), 1);
            s.due("a HOME on OFFER", y.wish(0, 4, true), 1);
        });
        s.test("Promise 28", "BAD;", () -> {
            for (boolean is : new boolean[] {true, false}) {
                s.range("member", Probe::busy, 0, 9, (x, n) -> x.wish(n, 5, is), BAD);
                s.range("home", Probe::busy, 0, 6, (x, n) -> x.wish(0, n, is), BAD);
                s.refused("BAD ahead of STATE", Probe::busy, x -> x.wish(4, 7, is), BAD);
            }
        });
        s.test("Promise 28", "STATE: it is not HERE.", () -> {
            for (boolean is : new boolean[] {true, false}) {
                s.refused("who went days ago", Probe::busy, x -> x.wish(4, 0, is), STATE);
                HousingSociety x = Probe.busy();
                x.leave(9);
                s.due("who went today", x.wish(9, 1, is), STATE);
            }
        });
    }

    private static void best29() {
        s.test("Promise 29", "How many MOVE in THE CHANGE.", () -> {
            HousingSociety x = Probe.busy();
            s.due("a ring of 0 and 2, and 5 to the EMPTY one", x.best(), 3);
            s.due("it is not done", x.best(), 3);
            s.refused("nothing is changed", Probe::busy, y -> y.best(), 3);
            s.due("there is nobody", new HousingSociety().best(), 0);
            HousingSociety all = Checks.society(12, 12);
            for (int i = 0; i < 12; i++) {
                all.right(0, i, i, 0);
                all.wish(i, (i + 1) % 12, true);
            }
            s.due("all", all.best(), 12);
            s.due("when RIGHTS have no room", Probe.full().best(), 1);
        });
    }

    private static void moves30() {
        s.test("Promise 30", "The HOME to which a MEMBER MOVES in THE CHANGE.", () -> {
            s.row("MEMBER", Probe.busy(), (x, member) -> x.moves(member), 2, NONE, 0, NONE, NONE, 6);
            s.refused("nothing is changed", Probe::busy, x -> x.moves(5), 6);
            s.due("when RIGHTS have no room", Probe.full().moves(0), 2);
            HousingSociety x = Checks.society(12, 24);
            x.right(0, 0, 23, 0);
            x.wish(23, 11, true);
            s.due("the last MEMBER to the last HOME", x.moves(23), 11);
            x.wish(23, 1, true);
            s.due("to the least HOME", x.moves(23), 1);
        });
        s.test("Promise 30", "NONE: it does not.", () -> {
            s.row("from 6 on", Probe.busy(), (x, i) -> x.moves(6 + i), NONE, NONE, NONE, NONE);
            s.due("who went", Probe.busy().moves(4), NONE);
            s.due("the second of a JOINT one", Probe.busy().moves(3), NONE);
            s.due("by a LET", Probe.busy().moves(1), NONE);
            HousingSociety x = Probe.busy();
            x.change();
            s.row("behind change()", x, (y, member) -> y.moves(member), NONE, NONE, NONE, NONE, NONE, NONE);
        });
        s.test("Promise 30", "BAD.", () -> {
            s.range("member", Probe::busy, 0, 9, HousingSociety::moves, BAD);
            s.range("the last of all", Probe::full, 0, 23, HousingSociety::moves, BAD);
            s.due("there are none", new HousingSociety().moves(0), BAD);
        });
    }

    private static void change31() {
        s.test("Promise 31", "THE CHANGE is done: RIGHTS that are left have TO today,", () -> {
            HousingSociety x = Probe.busy();
            x.change();
            s.row("TO", x, (y, right) -> y.rightTold(right, 5), 5, 30, 0, 5, 0, 3, 20, 5);
            s.due("a HOME that is left", x.homeTold(3, 3), 1);
            HousingSociety y = Checks.society(2, 1);
            y.right(0, 0, 0, 0);
            y.wish(0, 1, true);
            y.change();
            s.due("one that is from today was on no day", y.inForce(0, 0, 0), NONE);
        });
        s.test("Promise 31", "RIGHTS of the same KIND and MEMBERS to the new HOMES are from today, by MEMBERS;", () -> {
            HousingSociety x = Probe.busy();
            x.change();
            s.row("of 0", x, (y, what) -> y.rightTold(8, what), 0, 2, 0, NONE, 5, NONE, 1);
            s.row("of 2 and 3", x, (y, what) -> y.rightTold(9, what), 3, 0, 2, 3, 5, NONE, 1);
            s.row("of 5", x, (y, what) -> y.rightTold(10, what), 4, 6, 5, NONE, 5, NONE, 1);
            s.due("no more", x.count(3), 11);
            s.due("the second goes, too", x.memberTold(3, 4), 0);
        });
        s.test("Promise 31", "MEMBERS that MOVE (of JOINT ones the first) WISH nothing then:", () -> {
            HousingSociety x = Probe.busy();
            x.wish(1, 6, true);
            x.change();
            s.row("WISHES", x, (y, member) -> y.memberTold(member, 5), 0, 1, 0, 1, 0, 0, 0, 0, 0, 1);
            HousingSociety y = Probe.busy();
            y.right(0, 6, 9, 0);
            s.due("one that WISHES and does not MOVE", y.moves(5), NONE);
            y.change();
            s.due("it WISHES still", y.memberTold(5, 5), 1);
        });
        s.test("Promise 31", "how many MOVED.", () -> {
            s.due("three", Probe.busy().change(), 3);
            HousingSociety x = Probe.busy();
            x.change();
            s.due("again", x.change(), 0);
            s.due("there is nobody", new HousingSociety().change(), 0);
            s.refused("none MOVE", () -> Checks.society(3, 3), HousingSociety::change, 0);
        });
    }

    /** Three can MOVE in busy(), and there are so many RIGHTS. */
    private static HousingSociety busyWith(int rights) {
        HousingSociety x = Probe.busy();
        for (int i = x.count(3); i < rights; i++) {
            x.right(2, 0, 9, 10000);
        }
        return x;
    }

    private static void change31Full() {
        s.test("Promise 31", "FULL: that many RIGHTS have no room.", () -> {
            HousingSociety x = busyWith(57);
            s.due("three fit", x.change(), 3);
            s.due("the last one", x.rightTold(59, 2), 5);
            s.refused("the third does not fit", () -> busyWith(58), HousingSociety::change, FULL);
            s.refused("two do not fit", () -> busyWith(59), HousingSociety::change, FULL);
            s.refused("none fits", () -> busyWith(60), HousingSociety::change, FULL);
            s.refused("one does not fit", Probe::full, HousingSociety::change, FULL);
            HousingSociety y = Probe.full();
            y.wish(0, 2, false);
            s.due("nobody MOVES", y.change(), 0);
        });
    }
}
