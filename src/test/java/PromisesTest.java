/** For each promise of the document, what it answers in ordinary calls, at its edges, and to wrong numbers. */
public final class PromisesTest {
    private static final int NONE = HousingSociety.NONE, BAD = HousingSociety.BAD, STATE = HousingSociety.STATE,
            FULL = HousingSociety.FULL;
    private static final long NO = HousingSociety.NO;
    private static final String FIRST = "points waits ; may 1 ; votes 1 ; costs 1 ;";

    private static final Checks checks = new Checks();

    private static void due(String call, long got, long want) {
        checks.due(call, got, want);
    }

    public static void main(String[] args) {
        newObject1();
        day2();
        home3();
        member4();
        family5();
        right6();
        right6Refused();
        join7();
        end8();
        leave9();
        leave9Joint();
        rightTold10();
        inForce11();
        homeTold12();
        memberTold13();
        feed14();
        propose15();
        fault16();
        vote17();
        carry18();
        tear19();
        textTold20();
        text21();
        wait22();
        points23();
        order24();
        offer25();
        take26();
        take26Joint();
        withdraw27();
        wish28();
        best29();
        moves30();
        change31();
        change31Joint();
        cost32();
        cost32Refused();
        parted33();
        pay34();
        year35();
        gain36();
        due37();
        fund38();
        count39();
        put40();
        forge41Rights();
        forge41Rows();
        status42();
        checks.finish("PromisesTest");
    }

    private static void newObject1() {
        HousingSociety x = new HousingSociety();
        int[] counts = {0, 0, 0, 0, 0, 1, 0, 0, 0, 0, 0, 0};
        for (int what = 0; what < counts.length; what++) {
            due("1 count(" + what + ")", x.count(what), counts[what]);
        }
        int[] text = {1, 0, 0, 0, 0, NONE, FIRST.length()};
        for (int what = 0; what < text.length; what++) {
            due("1 textTold(0, " + what + ")", x.textTold(0, what), text[what]);
        }
        x.put(0, 2, 0);
        for (int i = 0; i < FIRST.length(); i++) {
            due("1 byte " + i, x.forge(0, 1, i), FIRST.charAt(i));
        }
        due("1 homeTold", x.homeTold(0, 0), BAD);
        due("1 memberTold", x.memberTold(0, 0), BAD);
        due("1 rightTold", x.rightTold(0, 0), BAD);
        due("1 best", x.best(), 0);
        due("1 due", x.due(), 0);
        due("1 status", x.status(), 0);
    }

    private static void day2() {
        HousingSociety x = new HousingSociety();
        due("2 day(0)", x.day(0), 0);
        due("2 day(3)", x.day(3), 3);
        due("2 day(4)", x.day(4), 7);
        checks.refused("2 day(-1)", x, () -> x.day(-1), BAD);
        checks.refused("2 day(10001)", x, () -> x.day(10001), BAD);
        for (int i = 1; i < 100; i++) {
            x.day(10000);
        }
        due("2 day(9993)", x.day(9993), 1000000);
        checks.refused("2 day(1)", x, () -> x.day(1), FULL);
        checks.refused("2 day(10001) at the end", x, () -> x.day(10001), BAD);
        due("2 day(0) at the end", x.day(0), 1000000);
    }

    private static void home3() {
        HousingSociety x = new HousingSociety();
        due("3 home", x.home(0, 1, 1), 0);
        due("3 home", x.home(3, 6, 100), 1);
        due("3 rooms", x.homeTold(1, 1), 6);
        int[][] wrong = {{-1, 1, 1}, {4, 1, 1}, {0, 0, 1}, {0, 7, 1}, {0, 1, 0}, {0, 1, 101}};
        for (int[] w : wrong) {
            checks.refused("3 home wrong", x, () -> x.home(w[0], w[1], w[2]), BAD);
        }
        for (int i = 2; i < 12; i++) {
            due("3 home", x.home(1, 2, 3), i);
        }
        checks.refused("3 home full", x, () -> x.home(1, 2, 3), FULL);
        checks.refused("3 home full and wrong", x, () -> x.home(4, 2, 3), BAD);
    }

    private static void member4() {
        HousingSociety x = new HousingSociety();
        x.day(6);
        due("4 member", x.member(1), 0);
        due("4 member", x.member(9), 1);
        due("4 came", x.memberTold(1, 1), 6);
        due("4 here", x.memberTold(1, 6), 1);
        checks.refused("4 member(0)", x, () -> x.member(0), BAD);
        checks.refused("4 member(10)", x, () -> x.member(10), BAD);
        for (int i = 2; i < 24; i++) {
            due("4 member", x.member(2), i);
        }
        checks.refused("4 member full", x, () -> x.member(2), FULL);
        checks.refused("4 member full and wrong", x, () -> x.member(0), BAD);
        x.leave(0);
        checks.refused("4 who left has its place still", x, () -> x.member(2), FULL);
    }

    private static void family5() {
        HousingSociety x = Checks.society(1, 2);
        due("5 family", x.family(0, 9), 1);
        due("5 family", x.family(0, 1), 9);
        due("5 told", x.memberTold(0, 0), 1);
        checks.refused("5 n 0", x, () -> x.family(0, 0), BAD);
        checks.refused("5 n 10", x, () -> x.family(0, 10), BAD);
        checks.refused("5 no member", x, () -> x.family(2, 1), BAD);
        checks.refused("5 member -1", x, () -> x.family(-1, 1), BAD);
        x.leave(1);
        checks.refused("5 left", x, () -> x.family(1, 3), STATE);
        checks.refused("5 left and wrong", x, () -> x.family(1, 10), BAD);
    }

    private static void right6() {
        HousingSociety x = Checks.society(4, 5);
        x.day(10);
        due("6 RIGHT", x.right(0, 0, 0, 0), 0);
        due("6 LET", x.right(1, 1, 1, 10000), 1);
        due("6 GUEST in a home that is held", x.right(2, 0, 1, 3), 2);
        due("6 GUEST of an empty home", x.right(2, 2, 1, 1), 3);
        due("6 GUEST again", x.right(2, 0, 1, 3), 4);
        due("6 TO of a RIGHT", x.rightTold(0, 5), NONE);
        due("6 TO of a LET", x.rightTold(1, 5), 10010);
        due("6 TO of a GUEST", x.rightTold(2, 5), 13);
        due("6 guests do not fill a home", x.homeTold(2, 3), 1);
        due("6 beside a guest", x.right(0, 2, 2, 0), 5);
        x.offer(3);
        due("6 GUEST of a home on offer", x.right(2, 3, 3, 2), 6);
        x.day(10000);
        due("6 behind a LET", x.right(0, 1, 3, 0), 7);
        due("6 who had a LET", x.rightTold(1, 6), 0);
    }

    private static void right6Refused() {
        HousingSociety x = Checks.society(4, 5);
        x.right(0, 0, 0, 0);
        x.offer(3);
        x.leave(4);
        int[][] bad = {{-1, 1, 1, 0}, {3, 1, 1, 0}, {4, 1, 1, 0}, {0, -1, 1, 0}, {0, 4, 1, 0}, {0, 1, -1, 0}, {0, 1, 5, 0},
            {0, 1, 1, 1}, {1, 1, 1, 0}, {1, 1, 1, 10001}, {2, 1, 1, 0}, {2, 1, 1, 10001}, {2, 1, 1, -1}, {0, 0, 4, 5}};
        for (int[] b : bad) {
            checks.refused("6 BAD", x, () -> x.right(b[0], b[1], b[2], b[3]), BAD);
        }
        int[][] state = {{0, 1, 4, 0}, {2, 1, 4, 1}, {0, 0, 1, 0}, {1, 0, 1, 5}, {0, 3, 1, 0}, {1, 3, 1, 5}, {0, 1, 0, 0},
            {1, 1, 0, 5}, {2, 0, 0, 1}};
        for (int[] s : state) {
            checks.refused("6 STATE", x, () -> x.right(s[0], s[1], s[2], s[3]), STATE);
        }
        fillRights(x, 1, 60);
        checks.refused("6 FULL", x, () -> x.right(0, 1, 1, 0), FULL);
        checks.refused("6 FULL GUEST", x, () -> x.right(2, 1, 1, 1), FULL);
        checks.refused("6 STATE ahead of FULL", x, () -> x.right(0, 0, 1, 0), STATE);
        checks.refused("6 BAD ahead of FULL", x, () -> x.right(0, 0, 1, 1), BAD);
    }

    /** GUESTS of a member in the home with the highest number, till there are so many rights. */
    private static void fillRights(HousingSociety x, int member, int till) {
        for (int i = x.count(3); i < till; i++) {
            due("fill", x.right(2, x.count(0) - 1, member, 10000), i);
        }
    }

    private static void join7() {
        HousingSociety x = Checks.society(3, 6);
        x.right(0, 0, 0, 0);
        x.right(1, 1, 1, 5);
        x.day(2);
        due("7 join", x.join(0, 2), 2);
        int[] told = {3, 0, 0, 2, 2, NONE, 1};
        for (int what = 0; what < told.length; what++) {
            due("7 told " + what, x.rightTold(2, what), told[what]);
        }
        due("7 TO of the other", x.rightTold(0, 5), 2);
        due("7 before", x.inForce(0, 0, 1), 0);
        due("7 since", x.inForce(0, 0, 2), 2);
        due("7 the second holds", x.memberTold(2, 4), 0);
        x.right(0, 2, 3, 0);
        due("7 on the same day", x.join(3, 4), 4);
        due("7 never in force", x.rightTold(3, 6), 0);
        due("7 TO is FROM", x.rightTold(3, 5), 2);
        x.leave(5);
        checks.refused("7 no right", x, () -> x.join(5, 5), BAD);
        checks.refused("7 right -1", x, () -> x.join(-1, 5), BAD);
        checks.refused("7 no member", x, () -> x.join(0, 6), BAD);
        checks.refused("7 a LET", x, () -> x.join(1, 5), STATE);
        checks.refused("7 a JOINT", x, () -> x.join(2, 5), STATE);
        checks.refused("7 not in force", x, () -> x.join(0, 5), STATE);
        join7Members();
    }

    private static void join7Members() {
        HousingSociety x = Checks.society(3, 4);
        x.right(0, 0, 0, 0);
        x.right(1, 1, 1, 5);
        x.leave(2);
        checks.refused("7 the second left", x, () -> x.join(0, 2), STATE);
        checks.refused("7 the second holds one", x, () -> x.join(0, 1), STATE);
        checks.refused("7 the same one", x, () -> x.join(0, 0), STATE);
        fillRights(x, 3, 60);
        checks.refused("7 FULL", x, () -> x.join(0, 3), FULL);
        checks.refused("7 STATE ahead of FULL", x, () -> x.join(0, 1), STATE);
        x.day(5);
        checks.refused("7 FULL without a LET", x, () -> x.join(0, 1), FULL);
    }

    private static void end8() {
        HousingSociety x = Checks.society(3, 3);
        x.right(0, 0, 0, 0);
        x.right(1, 1, 1, 9);
        x.right(2, 2, 1, 9);
        x.day(3);
        due("8 end", x.end(0), 1);
        due("8 TO", x.rightTold(0, 5), 3);
        due("8 empty", x.homeTold(0, 3), 1);
        due("8 end of a LET", x.end(1), 1);
        due("8 end of a GUEST", x.end(2), 1);
        due("8 guests", x.homeTold(2, 6), 0);
        checks.refused("8 ended", x, () -> x.end(0), STATE);
        checks.refused("8 none", x, () -> x.end(3), BAD);
        checks.refused("8 -1", x, () -> x.end(-1), BAD);
        x.right(1, 0, 0, 1);
        x.day(1);
        checks.refused("8 a LET that is over", x, () -> x.end(3), STATE);
    }

    private static void leave9() {
        HousingSociety x = Checks.society(4, 4);
        x.right(1, 0, 0, 90);
        x.right(2, 1, 0, 90);
        x.right(2, 1, 1, 90);
        x.wait(0);
        x.wish(0, 2, true);
        x.day(4);
        due("9 leave", x.leave(0), NONE);
        due("9 went", x.memberTold(0, 2), 4);
        due("9 waits", x.memberTold(0, 3), NONE);
        due("9 holds", x.memberTold(0, 4), NONE);
        due("9 wishes", x.memberTold(0, 5), 0);
        due("9 here", x.memberTold(0, 6), 0);
        due("9 LET", x.rightTold(0, 5), 4);
        due("9 GUEST", x.rightTold(1, 5), 4);
        due("9 another's GUEST", x.rightTold(2, 5), 90);
        due("9 who waits", x.count(9), 0);
        due("9 who is here", x.count(2), 3);
        checks.refused("9 left", x, () -> x.leave(0), STATE);
        checks.refused("9 none", x, () -> x.leave(4), BAD);
        checks.refused("9 -1", x, () -> x.leave(-1), BAD);
        due("9 on the day on which it came", x.leave(x.member(3)), NONE);
        due("9 never here", x.memberTold(4, 6), 0);
    }

    private static void leave9Joint() {
        for (int goes = 0; goes < 2; goes++) {
            HousingSociety x = Checks.society(2, 3);
            x.right(0, 0, 0, 0);
            x.join(0, 1);
            x.wait(0);
            x.wait(1);
            x.offer(1);
            x.take(1, false);
            x.day(3);
            due("9 LEFT", x.leave(goes), 2);
            int[] told = {4, 0, 1 - goes, NONE, 3, NONE, 1};
            for (int what = 0; what < told.length; what++) {
                due("9 LEFT told " + what, x.rightTold(2, what), told[what]);
            }
            due("9 TO of the JOINT", x.rightTold(1, 5), 3);
            due("9 offered to", x.homeTold(1, 4), goes == 0 ? 1 : NONE);
            due("9 no second LEFT", x.leave(1 - goes), NONE);
            due("9 empty", x.homeTold(0, 3), 1);
        }
        HousingSociety x = Checks.society(2, 3);
        x.right(0, 0, 0, 0);
        x.join(0, 1);
        fillRights(x, 2, 60);
        checks.refused("9 FULL", x, () -> x.leave(0), FULL);
        checks.refused("9 FULL for the second", x, () -> x.leave(1), FULL);
        due("9 who needs no room", x.leave(2), NONE);
        due("9 its guests", x.homeTold(1, 6), 0);
    }

    private static void rightTold10() {
        HousingSociety x = Checks.society(2, 3);
        x.day(7);
        x.right(1, 1, 2, 4);
        int[] told = {1, 1, 2, NONE, 7, 11, 1};
        for (int what = 0; what < told.length; what++) {
            due("10 rightTold(0, " + what + ")", x.rightTold(0, what), told[what]);
        }
        due("10 what -1", x.rightTold(0, -1), BAD);
        due("10 what 7", x.rightTold(0, 7), BAD);
        due("10 right 1", x.rightTold(1, 0), BAD);
        due("10 right -1", x.rightTold(-1, 0), BAD);
        x.day(3);
        due("10 the last day", x.rightTold(0, 6), 1);
        x.day(1);
        due("10 TO", x.rightTold(0, 6), 0);
    }

    private static void inForce11() {
        HousingSociety x = Checks.society(2, 3);
        x.right(2, 0, 1, 50);
        x.day(5);
        x.right(0, 0, 0, 0);
        x.day(5);
        x.join(1, 2);
        int[][] dayAndRight = {{0, NONE}, {4, NONE}, {5, 1}, {9, 1}, {10, 2}, {2000000, 2}};
        for (int[] d : dayAndRight) {
            due("11 of a home on " + d[0], x.inForce(0, 0, d[0]), d[1]);
            due("11 of a member on " + d[0], x.inForce(1, 0, d[0]), d[1]);
        }
        due("11 of the second, ahead", x.inForce(1, 2, 9), NONE);
        due("11 of the second", x.inForce(1, 2, 10), 2);
        due("11 of a guest", x.inForce(1, 1, 10), NONE);
        due("11 of an empty home", x.inForce(0, 1, 10), NONE);
        int[][] bad = {{-1, 0, 0}, {2, 0, 0}, {0, 2, 0}, {0, -1, 0}, {1, 3, 0}, {1, -1, 0}, {0, 0, -1}, {1, 0, 2000001}};
        for (int[] b : bad) {
            due("11 BAD", x.inForce(b[0], b[1], b[2]), BAD);
        }
    }

    private static void homeTold12() {
        HousingSociety x = Checks.society(1, 3);
        x.home(3, 5, 77);
        int[] told = {3, 5, 77, 1, NONE, 0, 0};
        for (int what = 0; what < told.length; what++) {
            due("12 homeTold(1, " + what + ")", x.homeTold(1, what), told[what]);
        }
        x.offer(1);
        due("12 on offer", x.homeTold(1, 5), 1);
        due("12 to nobody", x.homeTold(1, 4), NONE);
        x.wait(2);
        due("12 to who came to wait", x.homeTold(1, 4), 2);
        x.take(1, true);
        due("12 not on offer", x.homeTold(1, 5), 0);
        due("12 not empty", x.homeTold(1, 3), 0);
        x.right(2, 1, 0, 1);
        x.right(2, 1, 1, 2);
        due("12 guests", x.homeTold(1, 6), 2);
        x.day(1);
        due("12 guests later", x.homeTold(1, 6), 1);
        due("12 what -1", x.homeTold(1, -1), BAD);
        due("12 what 7", x.homeTold(1, 7), BAD);
        due("12 home 2", x.homeTold(2, 0), BAD);
        due("12 home -1", x.homeTold(-1, 0), BAD);
    }

    private static void memberTold13() {
        HousingSociety x = Checks.society(3, 1);
        x.day(2);
        x.member(6);
        int[] told = {6, 2, NONE, NONE, NONE, 0, 1};
        for (int what = 0; what < told.length; what++) {
            due("13 memberTold(1, " + what + ")", x.memberTold(1, what), told[what]);
        }
        x.day(3);
        x.wait(1);
        x.wish(1, 0, true);
        x.wish(1, 2, true);
        x.right(2, 0, 1, 5);
        due("13 waits", x.memberTold(1, 3), 5);
        due("13 wishes", x.memberTold(1, 5), 2);
        due("13 a guest holds nothing", x.memberTold(1, 4), NONE);
        x.right(1, 2, 1, 5);
        due("13 holds", x.memberTold(1, 4), 2);
        x.day(5);
        due("13 a LET that is over", x.memberTold(1, 4), NONE);
        x.leave(1);
        due("13 went", x.memberTold(1, 2), 10);
        due("13 here", x.memberTold(1, 6), 0);
        due("13 what -1", x.memberTold(1, -1), BAD);
        due("13 what 7", x.memberTold(1, 7), BAD);
        due("13 member 2", x.memberTold(2, 0), BAD);
        due("13 member -1", x.memberTold(-1, 0), BAD);
    }

    private static void feed14() {
        HousingSociety x = new HousingSociety();
        due("14 feed", x.feed(1, 'p'), 1);
        due("14 feed, the lowest first", x.feed(5, Checks.packed("oints???", 0, 8)), 6);
        checks.refused("14 n 0", x, () -> x.feed(0, 1), BAD);
        checks.refused("14 n 9", x, () -> x.feed(9, 1), BAD);
        checks.refused("14 n -1", x, () -> x.feed(-1, 1), BAD);
        Checks.feed(x, " 1;may 1;votes 1;costs 1;");
        due("14 what was fed", x.propose(), 1);
        for (int i = 0; i < 49; i++) {
            x.feed(8, 0x2020202020202020L);
        }
        due("14 feed", x.feed(7, 0x2020202020202020L), 399);
        checks.refused("14 FULL", x, () -> x.feed(2, 32), FULL);
        due("14 feed to the end", x.feed(1, 32), 400);
        checks.refused("14 FULL at the end", x, () -> x.feed(1, 32), FULL);
        checks.refused("14 BAD ahead of FULL", x, () -> x.feed(9, 32), BAD);
        due("14 the place of the end", x.propose(), -11);
        due("14 the place of the end", x.fault(1), 400);
    }

    private static void propose15() {
        HousingSociety x = new HousingSociety();
        due("15 an empty tape", x.propose(), -11);
        due("15 a text", Checks.propose(x, FIRST), 1);
        due("15 the tape is empty", x.count(7), 0);
        due("15 kind 1", Checks.propose(x, "points"), -11);
        due("15 the tape is empty", x.count(7), 0);
        due("15 kind 2", Checks.propose(x, "points members;may 1;votes 1;costs 1;"), -12);
        due("15 the tape is empty", x.count(7), 0);
        due("15 no text came of it", x.count(5), 2);
        for (int i = 2; i < 12; i++) {
            due("15 a text", Checks.propose(x, FIRST), i);
        }
        Checks.feed(x, "nonsense");
        due("15 fault", x.fault(0), 0);
        checks.refused("15 FULL", x, x::propose, FULL);
        due("15 the tape stays", x.count(7), 8);
        due("15 fault stays", x.fault(0), 0);
    }

    private static void fault16() {
        HousingSociety x = new HousingSociety();
        due("16 at first, the kind", x.fault(0), 0);
        due("16 at first, the place", x.fault(1), NONE);
        Checks.propose(x, " points 1;\n may X");
        due("16 the kind", x.fault(0), 1);
        due("16 the place", x.fault(1), 16);
        Checks.propose(x, FIRST);
        due("16 without one, the kind", x.fault(0), 0);
        due("16 without one, the place", x.fault(1), NONE);
        due("16 what -1", x.fault(-1), BAD);
        due("16 what 2", x.fault(2), BAD);
    }

    private static void vote17() {
        HousingSociety x = Checks.society(1, 4);
        Checks.propose(x, FIRST);
        due("17 vote", x.vote(0, 1, true), 1);
        due("17 vote against", x.vote(1, 1, false), 1);
        due("17 vote", x.vote(2, 1, true), 2);
        checks.refused("17 again", x, () -> x.vote(0, 1, true), STATE);
        checks.refused("17 again, against", x, () -> x.vote(1, 1, true), STATE);
        checks.refused("17 text 0", x, () -> x.vote(3, 0, true), STATE);
        checks.refused("17 no text", x, () -> x.vote(3, 2, true), BAD);
        checks.refused("17 text -1", x, () -> x.vote(3, -1, true), BAD);
        checks.refused("17 no member", x, () -> x.vote(4, 1, true), BAD);
        checks.refused("17 member -1", x, () -> x.vote(-1, 1, true), BAD);
        x.leave(3);
        x.leave(2);
        checks.refused("17 left", x, () -> x.vote(3, 1, true), STATE);
        due("17 the votes of who left", x.textTold(1, 3), 2);
        x.member(1);
        x.carry(1, 0);
        checks.refused("17 carried", x, () -> x.vote(4, 1, true), STATE);
        Checks.propose(x, FIRST);
        x.tear(2);
        checks.refused("17 void", x, () -> x.vote(4, 2, true), STATE);
    }

    private static void carry18() {
        HousingSociety x = Checks.society(1, 3);
        x.day(5);
        int two = Checks.propose(x, "points 1;may 1;votes members - 1;costs 1;");
        checks.refused("18 too few", x, () -> x.carry(two, 5), 0);
        x.vote(0, two, false);
        checks.refused("18 a no is no yes", x, () -> x.carry(two, 5), 0);
        x.vote(1, two, true);
        checks.refused("18 a day ahead of today", x, () -> x.carry(two, 4), BAD);
        checks.refused("18 too late a day", x, () -> x.carry(two, 2000001), BAD);
        checks.refused("18 no text", x, () -> x.carry(2, 5), BAD);
        checks.refused("18 text -1", x, () -> x.carry(-1, 5), BAD);
        due("18 carry", x.carry(two, 5), 1);
        due("18 in force", x.text(5), two);
        checks.refused("18 carried", x, () -> x.carry(two, 5), STATE);
        checks.refused("18 text 0", x, () -> x.carry(0, 5), STATE);
        int next = Checks.propose(x, "points 2;may 1;votes 0 - 1;costs 1;");
        x.vote(0, next, true);
        checks.refused("18 one of two", x, () -> x.carry(next, 2000000), 0);
        x.leave(2);
        due("18 one of one", x.carry(next, 2000000), 1);
        due("18 not yet", x.text(1999999), two);
        due("18 then", x.text(2000000), next);
        int torn = Checks.propose(x, FIRST);
        x.vote(0, torn, true);
        x.tear(torn);
        checks.refused("18 void", x, () -> x.carry(torn, 5), STATE);
        checks.refused("18 BAD ahead of STATE", x, () -> x.carry(torn, 4), BAD);
    }

    private static void tear19() {
        HousingSociety x = Checks.society(1, 1);
        // Text 3 hangs on 0, 1 on 3, 2 on 1, 4 on 0 again behind them all in number, 5 is only proposed.
        String free = "points 1;may 1;votes 0;costs 1;";
        for (int i = 1; i <= 5; i++) {
            Checks.propose(x, free);
        }
        x.vote(0, 4, true);
        x.carry(4, 100);
        x.vote(0, 3, true);
        x.carry(3, 0);
        x.carry(1, 0);
        x.carry(2, 0);
        due("19 hangs", x.textTold(2, 5), 1);
        due("19 hangs", x.textTold(1, 5), 3);
        due("19 hangs", x.textTold(3, 5), 0);
        due("19 in force", x.text(200), 2);
        checks.refused("19 text 0", x, () -> x.tear(0), BAD);
        checks.refused("19 no text", x, () -> x.tear(6), BAD);
        checks.refused("19 text -1", x, () -> x.tear(-1), BAD);
        due("19 tear", x.tear(3), 3);
        for (int i = 0; i <= 5; i++) {
            due("19 void " + i, x.textTold(i, 1), i >= 1 && i <= 3 ? 1 : 0);
        }
        due("19 in force then", x.text(99), 0);
        due("19 in force later", x.text(100), 4);
        checks.refused("19 void", x, () -> x.tear(2), STATE);
        due("19 one that is only proposed", x.tear(5), 1);
        due("19 tear", x.tear(4), 1);
        due("19 in force at last", x.text(100), 0);
        due("19 carried still", x.textTold(3, 0), 1);
        due("19 its day still", x.textTold(4, 2), 100);
    }

    private static void textTold20() {
        HousingSociety x = Checks.society(1, 3);
        x.day(3);
        String text = "points 1; may 1; votes 1; costs 1;  ";
        Checks.propose(x, text);
        x.vote(0, 1, true);
        x.vote(1, 1, false);
        x.vote(2, 1, false);
        int[] proposed = {0, 0, NONE, 1, 2, NONE, text.length()};
        for (int what = 0; what < proposed.length; what++) {
            due("20 textTold(1, " + what + ")", x.textTold(1, what), proposed[what]);
        }
        x.carry(1, 8);
        int[] carried = {1, 0, 8, 1, 2, 0, text.length()};
        for (int what = 0; what < carried.length; what++) {
            due("20 carried, textTold(1, " + what + ")", x.textTold(1, what), carried[what]);
        }
        due("20 what -1", x.textTold(1, -1), BAD);
        due("20 what 7", x.textTold(1, 7), BAD);
        due("20 text 2", x.textTold(2, 0), BAD);
        due("20 text -1", x.textTold(-1, 0), BAD);
    }

    private static void text21() {
        HousingSociety x = Checks.society(1, 1);
        String free = "points 1;may 1;votes 0;costs 1;";
        Checks.propose(x, free);
        Checks.propose(x, free);
        x.vote(0, 1, true);
        x.vote(0, 2, true);
        due("21 carry", x.carry(2, 10), 1);
        due("21 carry", x.carry(1, 5), 1);
        due("21 ahead", x.text(4), 0);
        due("21 first", x.text(5), 1);
        due("21 the one that was carried last, not the one with the latest day", x.text(10), 1);
        due("21 day 0", x.text(0), 0);
        due("21 the last day", x.text(2000000), 1);
        due("21 day -1", x.text(-1), BAD);
        due("21 too late", x.text(2000001), BAD);
    }

    private static void wait22() {
        HousingSociety x = Checks.society(1, 2);
        x.day(2);
        due("22 wait", x.wait(0), 1);
        x.day(2);
        due("22 it does", x.wait(0), 0);
        due("22 since", x.memberTold(0, 3), 2);
        x.leave(1);
        checks.refused("22 left", x, () -> x.wait(1), STATE);
        checks.refused("22 none", x, () -> x.wait(2), BAD);
        checks.refused("22 -1", x, () -> x.wait(-1), BAD);
    }

    private static void points23() {
        HousingSociety x = new HousingSociety();
        x.home(3, 5, 70);
        x.day(10);
        x.member(4);
        x.day(20);
        due("23 does not wait", x.points(0, 0, 0), 0);
        x.wait(0);
        x.day(7);
        due("23 points", x.points(0, 0, 0), 7);
        due("23 may", x.points(0, 0, 1), 1);
        due("23 no member", x.points(1, 0, 0), NO);
        due("23 member -1", x.points(-1, 0, 0), NO);
        due("23 no home", x.points(0, 1, 0), NO);
        due("23 home -1", x.points(0, -1, 0), NO);
        due("23 what 2", x.points(0, 0, 2), NO);
        due("23 what -1", x.points(0, 0, -1), NO);
        x.pay(0, 9);
        Checks.enact(x, "points waits + 100 * family + 1000 * rooms + 100000 * joined; may debt + stair * share;"
            + "votes 1; costs 1;", 1);
        due("23 all names", x.points(0, 0, 0), 7 + 400 + 5000 + 2700000);
        due("23 all names", x.points(0, 0, 1), 210 - 9);
        x.leave(0);
        due("23 of who left", x.points(0, 0, 0), 400 + 5000 + 2700000);
    }

    private static void order24() {
        HousingSociety x = Checks.society(2, 6);
        x.wait(4);
        x.day(5);
        x.wait(3);
        x.wait(1);
        x.wait(0);
        x.wait(5);
        int[] longest = {4, 0, 1, 3, 5, NONE};
        for (int i = 0; i < longest.length; i++) {
            due("24 order(0, " + i + ")", x.order(0, i), longest[i]);
        }
        due("24 i -1", x.order(0, -1), NONE);
        due("24 i large", x.order(0, Integer.MAX_VALUE), NONE);
        due("24 i least", x.order(0, Integer.MIN_VALUE), NONE);
        due("24 home 2", x.order(2, 0), BAD);
        due("24 home -1", x.order(-1, 0), BAD);
        // family is 1 more than the member's number: 0 may not, and 1 and 3 have like points, as 4 and 5.
        Checks.enact(x, "points (family = 4) + (family = 2); may 0 - (1 < family); votes 1; costs 1;", 1);
        int[] byPoints = {1, 3, 4, 5, NONE};
        for (int i = 0; i < byPoints.length; i++) {
            due("24 by points " + i, x.order(1, i), byPoints[i]);
        }
        x.right(0, 1, 2, 0);
        due("24 of a home that is held", x.order(1, 0), 1);
        x.leave(1);
        due("24 who left", x.order(1, 0), 3);
    }

    private static void offer25() {
        HousingSociety x = Checks.society(4, 3);
        x.right(0, 0, 0, 0);
        x.right(2, 1, 0, 5);
        due("25 to nobody", x.offer(1), NONE);
        x.wait(2);
        due("25 offer", x.offer(2), 2);
        due("25 to the same one", x.offer(3), 2);
        due("25 how many", x.count(10), 3);
        due("25 there is somebody now", x.homeTold(1, 4), 2);
        checks.refused("25 not empty", x, () -> x.offer(0), STATE);
        checks.refused("25 on offer", x, () -> x.offer(2), STATE);
        checks.refused("25 none", x, () -> x.offer(4), BAD);
        checks.refused("25 -1", x, () -> x.offer(-1), BAD);
    }

    private static void take26() {
        HousingSociety x = Checks.society(4, 4);
        x.right(0, 0, 0, 0);
        x.right(2, 3, 0, 90);
        for (int i = 0; i < 3; i++) {
            x.wait(i);
        }
        checks.refused("26 not on offer", x, () -> x.take(1, true), STATE);
        x.offer(1);
        x.day(2);
        x.wish(0, 2, true);
        due("26 yes", x.take(1, true), 2);
        due("26 what it held", x.rightTold(0, 5), 2);
        due("26 its GUEST right", x.rightTold(1, 5), 90);
        int[] told = {0, 1, 0, NONE, 2, NONE, 1};
        for (int what = 0; what < told.length; what++) {
            due("26 told " + what, x.rightTold(2, what), told[what]);
        }
        due("26 waits no more", x.memberTold(0, 3), NONE);
        due("26 no offer", x.homeTold(1, 5), 0);
        due("26 its wishes stay", x.memberTold(0, 5), 1);
        due("26 empty", x.homeTold(0, 3), 1);
        x.offer(2);
        due("26 no", x.take(2, false), 2);
        due("26 no", x.take(2, false), NONE);
        checks.refused("26 to nobody", x, () -> x.take(2, true), STATE);
        checks.refused("26 to nobody, no", x, () -> x.take(2, false), STATE);
        due("26 another offer is not refused", x.offer(0), 1);
        x.wait(3);
        due("26 one that came later", x.homeTold(2, 4), 3);
        x.withdraw(2);
        due("26 an offer anew", x.offer(2), 1);
        checks.refused("26 none", x, () -> x.take(4, true), BAD);
        checks.refused("26 -1", x, () -> x.take(-1, true), BAD);
        fillRights(x, 3, 60);
        checks.refused("26 FULL", x, () -> x.take(2, true), FULL);
        due("26 no, when it is FULL", x.take(2, false), 2);
    }

    private static void take26Joint() {
        for (int goes = 0; goes < 2; goes++) {
            HousingSociety x = Checks.society(3, 3);
            x.right(0, 0, 0, 0);
            x.join(0, 1);
            x.wait(goes);
            x.offer(1);
            x.day(1);
            int who = goes;
            fillRights(x, 2, 59);
            checks.refused("26 FULL: two are needed", x, () -> x.take(1, true), FULL);
            HousingSociety y = Checks.society(3, 3);
            y.right(0, 0, 0, 0);
            y.join(0, 1);
            y.wait(who);
            y.offer(1);
            fillRights(y, 2, 58);
            due("26 yes", y.take(1, true), 59);
            int[] left = {4, 0, 1 - who, NONE, 0, NONE, 1};
            for (int what = 0; what < left.length; what++) {
                due("26 LEFT told " + what, y.rightTold(58, what), left[what]);
            }
            due("26 JOINT", y.rightTold(1, 6), 0);
            due("26 holds", y.memberTold(who, 4), 1);
            due("26 the other holds", y.memberTold(1 - who, 4), 0);
        }
    }

    private static void withdraw27() {
        HousingSociety x = Checks.society(2, 1);
        checks.refused("27 there is none", x, () -> x.withdraw(0), STATE);
        x.offer(0);
        due("27 withdraw", x.withdraw(0), 1);
        due("27 on offer", x.homeTold(0, 5), 0);
        checks.refused("27 there is none any more", x, () -> x.withdraw(0), STATE);
        checks.refused("27 none", x, () -> x.withdraw(2), BAD);
        checks.refused("27 -1", x, () -> x.withdraw(-1), BAD);
    }

    private static void wish28() {
        HousingSociety x = Checks.society(2, 2);
        due("28 wish", x.wish(0, 1, true), 1);
        due("28 again", x.wish(0, 1, true), 0);
        due("28 no more", x.wish(0, 1, false), 1);
        due("28 again no more", x.wish(0, 1, false), 0);
        due("28 how many", x.memberTold(0, 5), 0);
        x.leave(1);
        checks.refused("28 left", x, () -> x.wish(1, 0, true), STATE);
        checks.refused("28 no member", x, () -> x.wish(2, 0, true), BAD);
        checks.refused("28 member -1", x, () -> x.wish(-1, 0, true), BAD);
        checks.refused("28 no home", x, () -> x.wish(0, 2, true), BAD);
        checks.refused("28 home -1", x, () -> x.wish(0, -1, true), BAD);
        checks.refused("28 BAD ahead of STATE", x, () -> x.wish(1, 2, true), BAD);
    }

    private static void best29() {
        HousingSociety x = Checks.society(5, 4);
        x.right(0, 0, 0, 0);
        x.right(1, 1, 1, 50);
        x.right(0, 2, 2, 0);
        x.wish(0, 0, true);
        due("29 its own home is no other", x.best(), 0);
        x.wish(0, 1, true);
        due("29 a home of one who has a LET", x.best(), 0);
        x.wish(1, 3, true);
        due("29 a LET does not move", x.best(), 0);
        x.wish(3, 3, true);
        due("29 who holds nothing does not move", x.best(), 0);
        x.wish(0, 2, true);
        due("29 the home of one who stays", x.best(), 0);
        x.wish(2, 4, true);
        due("29 a chain", x.best(), 2);
        x.offer(4);
        due("29 a home on offer", x.best(), 0);
        x.wish(2, 0, true);
        due("29 a ring", x.best(), 2);
        x.right(2, 3, 3, 50);
        x.wish(2, 3, true);
        due("29 a home with a guest is empty", x.best(), 2);
    }

    private static void moves30() {
        HousingSociety x = Checks.society(6, 4);
        for (int i = 0; i < 3; i++) {
            x.right(0, i, i, 0);
        }
        x.wish(0, 5, true);
        x.wish(0, 4, true);
        due("30 the least home", x.moves(0), 4);
        x.wish(1, 4, true);
        due("30 the most move", x.moves(0), 5);
        due("30 the most move", x.moves(1), 4);
        x.wish(2, 4, true);
        x.wish(2, 5, true);
        due("30 the lower members first", x.moves(0), 4);
        due("30 not to move comes last", x.moves(1), NONE);
        due("30 the last one", x.moves(2), 5);
        due("30 who holds nothing", x.moves(3), NONE);
        due("30 none", x.moves(4), BAD);
        due("30 -1", x.moves(-1), BAD);
    }

    private static void change31() {
        HousingSociety x = Checks.society(5, 4);
        x.right(0, 3, 0, 0);
        x.right(0, 2, 1, 0);
        x.right(0, 1, 2, 0);
        x.day(6);
        x.wish(2, 3, true);
        x.wish(0, 1, true);
        x.wish(1, 1, true);
        x.wish(1, 2, true);
        x.wait(0);
        due("31 change", x.change(), 2);
        int[][] told = {{0, 1, 0, NONE, 6, NONE, 1}, {0, 3, 2, NONE, 6, NONE, 1}};
        for (int i = 0; i < 2; i++) {
            for (int what = 0; what < 7; what++) {
                due("31 told " + (3 + i) + " " + what, x.rightTold(3 + i, what), told[i][what]);
            }
        }
        due("31 left", x.rightTold(0, 5), 6);
        due("31 stays", x.rightTold(1, 5), NONE);
        due("31 left", x.rightTold(2, 5), 6);
        due("31 wishes", x.memberTold(0, 5), 0);
        due("31 wishes of one that stayed", x.memberTold(1, 5), 2);
        due("31 waits still", x.memberTold(0, 3), 6);
        due("31 nobody", x.change(), 0);
        x.wish(0, 3, true);
        x.wish(2, 1, true);
        fillRights(x, 3, 59);
        checks.refused("31 FULL", x, x::change, FULL);
        x.wish(0, 3, false);
        x.wish(2, 0, true);
        due("31 the last room", x.change(), 1);
        due("31 nobody, when it is FULL", x.change(), 0);
    }

    private static void change31Joint() {
        HousingSociety x = Checks.society(4, 5);
        x.right(0, 0, 0, 0);
        x.join(0, 1);
        x.right(0, 1, 2, 0);
        x.join(2, 3);
        x.leave(2);
        x.wish(1, 3, true);
        due("31 the second of a JOINT alone can't", x.best(), 0);
        x.wish(0, 1, true);
        x.wish(3, 0, true);
        due("31 moves of the second", x.moves(1), NONE);
        due("31 change", x.change(), 2);
        int[][] told = {{3, 1, 0, 1, 0, NONE, 1}, {4, 0, 3, NONE, 0, NONE, 1}};
        for (int i = 0; i < 2; i++) {
            for (int what = 0; what < 7; what++) {
                due("31 told " + (5 + i) + " " + what, x.rightTold(5 + i, what), told[i][what]);
            }
        }
        due("31 both go", x.memberTold(1, 4), 1);
        due("31 wishes of the second", x.memberTold(1, 5), 1);
        x.leave(0);
        due("31 with a LEFT right it can", x.moves(1), 3);
    }

    private static void cost32() {
        HousingSociety x = Checks.society(6, 6);
        x.right(0, 5, 0, 0);
        x.right(1, 1, 1, 9);
        x.right(0, 2, 2, 0);
        x.join(2, 3);
        x.right(2, 0, 4, 9);
        due("32 cost", x.cost(100), 0);
        int[] parts = {0, 34, 33, 0, 0, 33};
        for (int home = 0; home < 6; home++) {
            due("32 parted " + home, x.parted(0, home), parts[home]);
        }
        int[] debts = {33, 34, 33, 0, 0, 0};
        for (int i = 0; i < 6; i++) {
            due("32 debt " + i, x.pay(i, 0), debts[i]);
        }
        due("32 one coin", x.cost(1), 1);
        due("32 of like ones the least home", x.parted(1, 1), 1);
        due("32 as many as there can be", x.cost(1000000), 2);
        due("32 the most", x.parted(2, 1), 333334);
        due("32 debts are added up", x.pay(1, 0), 34 + 1 + 333334);
        // weights: home 1 (rooms 2) 3000000 is cut to 1000000, home 2 (rooms 3) below 0, home 5 (rooms 6) 7.
        Checks.enact(x, "points 1; may 1; votes 1; costs (rooms = 2) * 3 * 999999 + (rooms = 6) * 7 - (rooms = 3);", 1);
        due("32 cost", x.cost(1000000), 3);
        due("32 the heaviest", x.parted(3, 1), 999993);
        due("32 below 0", x.parted(3, 2), 0);
        due("32 the light one", x.parted(3, 5), 7);
        cost32Heaviest();
        Checks.enact(x, "points 1; may 1; votes 1; costs family + stair * 10 + share * 100;", 1);
        // weights: home 1: 2 + 10 + 200 = 212, home 2: 3 + 20 + 300 = 323, home 5: 1 + 10 + 600 = 611; all 1146.
        due("32 cost", x.cost(10), 4);
        int[] byNames = {0, 2, 3, 0, 0, 5};
        for (int home = 0; home < 6; home++) {
            due("32 by names " + home, x.parted(4, home), byNames[home]);
        }
    }

    private static void cost32Heaviest() {
        HousingSociety x = Checks.society(2, 2);
        x.right(0, 0, 0, 0);
        x.right(0, 1, 1, 0);
        Checks.enact(x, "points 1; may 1; votes 1; costs 999998 + share;", 1);
        x.cost(1);
        due("32 a weight of 1000000 is more than one of 999999", x.parted(0, 1), 1);
        Checks.enact(x, "points 1; may 1; votes 1; costs 999999 + share;", 1);
        x.cost(1);
        due("32 a weight of 1000001 is no more than one of 1000000", x.parted(1, 1), 0);
    }

    private static void cost32Refused() {
        HousingSociety x = Checks.society(2, 2);
        checks.refused("32 no home among which", x, () -> x.cost(5), STATE);
        x.right(2, 0, 0, 9);
        checks.refused("32 a guest does not pay", x, () -> x.cost(5), STATE);
        x.right(0, 0, 1, 0);
        checks.refused("32 coins 0", x, () -> x.cost(0), BAD);
        checks.refused("32 coins 1000001", x, () -> x.cost(1000001), BAD);
        for (int i = 0; i < 30; i++) {
            due("32 cost", x.cost(3), i);
        }
        checks.refused("32 FULL", x, () -> x.cost(3), FULL);
        checks.refused("32 BAD ahead of FULL", x, () -> x.cost(-3), BAD);
        Checks.enact(x, "points 1; may 1; votes 1; costs 0 - 1;", 1);
        checks.refused("32 all weights are 0, ahead of FULL", x, () -> x.cost(3), STATE);
    }

    private static void parted33() {
        HousingSociety x = Checks.society(2, 2);
        x.right(0, 1, 0, 0);
        x.cost(9);
        x.home(0, 1, 1);
        due("33 parted", x.parted(0, 1), 9);
        due("33 an empty home", x.parted(0, 0), 0);
        due("33 a home that came later", x.parted(0, 2), 0);
        due("33 no cost", x.parted(1, 0), BAD);
        due("33 cost -1", x.parted(-1, 0), BAD);
        due("33 no home", x.parted(0, 3), BAD);
        due("33 home -1", x.parted(0, -1), BAD);
    }

    private static void pay34() {
        HousingSociety x = Checks.society(1, 2);
        x.right(0, 0, 0, 0);
        x.cost(50);
        due("34 pay", x.pay(0, 20), 30);
        due("34 pay nothing", x.pay(0, 0), 30);
        due("34 pay more", x.pay(0, 1000000), 30 - 1000000);
        due("34 n -1", x.pay(0, -1), NO);
        due("34 n 1000001", x.pay(0, 1000001), NO);
        due("34 no member", x.pay(2, 1), NO);
        due("34 member -1", x.pay(-1, 1), NO);
        due("34 nothing was changed", x.pay(0, 0), 30 - 1000000);
        x.leave(1);
        due("34 one that left", x.pay(1, 4), -4);
    }

    private static void year35() {
        HousingSociety x = new HousingSociety();
        due("35 year", x.year(0, 1000000), 0);
        due("35 year", x.year(0, 5), 1000000);
        due("35 the last", x.year(39, 6), 0);
        due("35 the last", x.year(39, 0), 6);
        checks.refused("35 y 40", x, () -> x.year(40, 1), BAD);
        checks.refused("35 y -1", x, () -> x.year(-1, 1), BAD);
        checks.refused("35 n -1", x, () -> x.year(1, -1), BAD);
        checks.refused("35 n 1000001", x, () -> x.year(1, 1000001), BAD);
        due("35 nothing was changed", x.year(1, 0), 0);
    }

    private static void gain36() {
        HousingSociety x = new HousingSociety();
        due("36 gain", x.gain(100), 0);
        due("36 gain", x.gain(0), 100);
        due("36 gain", x.gain(7), 0);
        checks.refused("36 n -1", x, () -> x.gain(-1), BAD);
        checks.refused("36 n 101", x, () -> x.gain(101), BAD);
        due("36 told", x.count(11), 7);
    }

    private static void due37() {
        HousingSociety x = new HousingSociety();
        due("37 nothing costs", x.due(), 0);
        x.year(3, 10);
        due("37 10 in 4 years", x.due(), 3);
        x.year(39, 1000000);
        due("37 a late year", x.due(), 25001);
        x.gain(100);
        due("37 with a yield", x.due(), leastByFund(x));
        x.year(0, 1000000);
        due("37 the first year", x.due(), leastByFund(x));
        x.gain(0);
        due("37 the first year is the dearest", x.due(), 1000000);
        for (int y = 0; y < 40; y++) {
            x.year(y, 1000000);
        }
        due("37 all years are the dearest", x.due(), 1000000);
    }

    /** By the words of the promise: from 0 on, the first with which no year ends below 0. */
    private static int leastByFund(HousingSociety x) {
        int least = 0;
        while (least < 1000000 && !isNeverBelow(x, least)) {
            least++;
        }
        return least;
    }

    private static boolean isNeverBelow(HousingSociety x, int n) {
        for (int y = 0; y < 40; y++) {
            if (x.fund(y, n) < 0) {
                return false;
            }
        }
        return true;
    }

    private static void fund38() {
        HousingSociety x = new HousingSociety();
        x.gain(100);
        x.year(0, 25);
        due("38 the first year, cut", x.fund(0, 19), 19 + 1 - 25);
        due("38 below 0, cut towards 0", x.fund(1, 0), -25 - 2);
        due("38 a due of 0", x.fund(0, 0), -25);
        due("38 the second year", x.fund(1, 19), (-5 + 19) + 1);
        due("38 the largest", x.fund(0, 1000000), 1100000 - 25);
        due("38 y 40", x.fund(40, 1), NO);
        due("38 y -1", x.fund(-1, 1), NO);
        due("38 n -1", x.fund(0, -1), NO);
        due("38 n 1000001", x.fund(0, 1000001), NO);
        long coins = 0;
        for (int y = 0; y < 40; y++) {
            coins += 1000000;
            coins += coins / 10;
            coins -= y == 0 ? 25 : 0;
        }
        due("38 the last year", x.fund(39, 1000000), coins);
    }

    private static void count39() {
        HousingSociety x = Checks.society(3, 5);
        x.day(4);
        x.right(0, 0, 0, 0);
        x.right(2, 0, 1, 2);
        x.right(1, 1, 1, 3);
        x.end(2);
        x.leave(4);
        Checks.propose(x, FIRST);
        x.feed(3, 7);
        x.wait(0);
        x.wait(1);
        x.wait(2);
        x.offer(1);
        x.offer(2);
        x.cost(9);
        x.gain(12);
        int[] counts = {3, 5, 4, 3, 2, 2, 1, 3, 4, 3, 2, 12};
        for (int what = 0; what < counts.length; what++) {
            due("39 count(" + what + ")", x.count(what), counts[what]);
        }
        due("39 what -1", x.count(-1), BAD);
        due("39 what 12", x.count(12), BAD);
    }

    private static void put40() {
        HousingSociety x = Checks.society(3, 2);
        x.right(0, 0, 0, 0);
        for (int what = 0; what <= 4; what++) {
            due("40 put " + what, x.put(5, what, what == 1 ? 0 : 12345), 1);
            due("40 status", x.status(), 0);
        }
        due("40 truths are held", x.forge(5, 3, 0), 0);
        x.end(0);
        due("40 as they were", x.forge(5, 3, 0), 0);
        x.put(5, 4, 0);
        due("40 as they are", x.forge(5, 3, 0), 1);
        int[][] wrong = {{6, 0, 0}, {-1, 0, 0}, {5, 5, 0}, {5, -1, 0}, {5, 1, 1}, {5, 1, -1}};
        for (int[] w : wrong) {
            x.put(0, 0, 0);
            due("40 put wrong", x.put(w[0], w[1], w[2]), -1);
            due("40 status", x.status(), 1);
            due("40 it holds what it held", x.forge(5, 3, 0), 1);
        }
        x.pay(1, 3);
        x.put(5, 3, 0);
        x.pay(1, 3);
        due("40 debts as they were", x.forge(5, 2, 1), -3);
        x.put(5, 0, 0);
        due("40 nothing", x.forge(5, 2, 1), -1);
        due("40 nothing", x.status(), 10);
        Checks.enact(x, "points 7;may 1;votes 1;costs 1;", 1);
        x.put(5, 2, 0);
        due("40 the text in force", x.forge(5, 1, 7), '7');
    }

    private static void forged(HousingSociety x, String call, int got, int want, int status) {
        due(call, got, want);
        due(call + ", status", x.status(), status);
    }

    private static void forge41Rights() {
        HousingSociety x = Checks.society(7, 7);
        x.right(0, 5, 0, 0);
        x.right(1, 4, 1, 9);
        x.right(2, 3, 0, 9);
        x.right(0, 2, 2, 0);
        x.join(3, 3);
        x.right(0, 1, 4, 0);
        x.join(5, 5);
        x.leave(4);
        int[] rightOfKind = {0, 1, 2, 4, 7};
        int[] homeOfKind = {5, 4, 3, 2, 1};
        for (int kind = 0; kind < 5; kind++) {
            x.put(0, 1, rightOfKind[kind]);
            for (int n = -100; n <= 100; n++) {
                int above = Math.floorMod(n, 5);
                boolean fits = above == 0 || above == kind || above == 1 && kind == 2;
                forged(x, "41 KIND " + kind + " forge(0, 0, " + n + ")", x.forge(0, 0, n), fits ? homeOfKind[kind] : -1,
                    fits ? 0 : 11);
            }
            boolean lays = kind == 1 || kind == 2;
            forged(x, "41 KIND " + kind + " is laid", x.forge(0, 6, 0), lays ? homeOfKind[kind] : -1, lays ? 0 : 14);
            for (int what : new int[] {1, 2, 3, 5}) {
                forged(x, "41 a right for rows, " + what, x.forge(0, what, 0), -1, 11);
            }
        }
        for (int n = -2; n < 3; n++) {
            forged(x, "41 nothing for a right", x.forge(1, 0, n), -1, 10);
        }
        forged(x, "41 nothing is laid", x.forge(1, 6, 0), 0, 0);
        for (int what = 2; what <= 4; what++) {
            x.put(2, what, 0);
            forged(x, "41 rows for a right", x.forge(2, 0, 0), -1, 11);
            forged(x, "41 rows are laid", x.forge(2, 6, 0), -1, 14);
        }
    }

    private static void forge41Rows() {
        HousingSociety x = Checks.society(2, 3);
        x.right(0, 1, 2, 0);
        x.pay(1, 12);
        for (int tray = 0; tray < 4; tray++) {
            x.put(tray, tray + 1, 0);
        }
        int last = FIRST.length() - 1;
        forged(x, "41 the last byte", x.forge(1, 1, last), ';', 0);
        forged(x, "41 a byte behind", x.forge(1, 1, last + 1), -1, 12);
        forged(x, "41 a byte ahead", x.forge(1, 1, -1), -1, 12);
        forged(x, "41 a debt", x.forge(2, 2, 1), -12, 0);
        forged(x, "41 the last debt", x.forge(2, 2, 2), 0, 0);
        forged(x, "41 a debt behind", x.forge(2, 2, 3), -1, 12);
        forged(x, "41 a debt ahead", x.forge(2, 2, -1), -1, 12);
        forged(x, "41 empty", x.forge(3, 3, 0), 1, 0);
        forged(x, "41 not empty", x.forge(3, 3, 1), 0, 0);
        forged(x, "41 a home behind", x.forge(3, 3, 2), -1, 12);
        forged(x, "41 a home ahead", x.forge(3, 3, -1), -1, 12);
        int[][] sorts = {{1, 2}, {1, 3}, {2, 1}, {2, 3}, {3, 1}, {3, 2}, {2, 5}, {3, 5}};
        for (int[] s : sorts) {
            forged(x, "41 another sort", x.forge(s[0], s[1], -1), -1, 11);
        }
        for (int what : new int[] {1, 2, 3, 5}) {
            forged(x, "41 nothing", x.forge(4, what, -1), -1, 10);
        }
        int[] sums = {0, 111, 111 + 105, 111 + 105 + 110, 111 + 105 + 110 + 116};
        for (int n = -1; n < 7; n++) {
            boolean fits = n >= 0 && n <= 4;
            forged(x, "41 copied " + n, x.forge(1, 5, n), fits ? sums[n] : -1, fits ? 0 : 12);
        }
        forge41Numbers(x);
    }

    private static void forge41Numbers(HousingSociety x) {
        forged(x, "41 a row of 0", x.forge(0, 4, 0), 0, 0);
        forged(x, "41 a row of 100", x.forge(0, 4, 100), 100, 0);
        forged(x, "41 a row of -1", x.forge(0, 4, -1), -1, 13);
        forged(x, "41 divided", x.forge(0, 7, 7), 142, 0);
        forged(x, "41 divided", x.forge(0, 7, -7), -142, 0);
        forged(x, "41 divided by 0", x.forge(0, 7, 0), -1, 15);
        forged(x, "41 thrown", x.forge(0, 8, 5), -1, 10);
        int[][] none = {{6, 4, 1}, {-1, 4, 1}, {0, 9, 1}, {0, -1, 1}, {0, 4, 101}, {0, 7, -101}, {0, 8, 101}, {6, 8, 0}};
        for (int[] n : none) {
            x.put(5, 0, 0);
            forged(x, "41 none such", x.forge(n[0], n[1], n[2]), -1, 1);
        }
    }

    private static void status42() {
        HousingSociety x = Checks.society(1, 1);
        due("42 at first", x.status(), 0);
        x.forge(0, 7, 0);
        due("42 refused", x.status(), 15);
        due("42 again", x.status(), 15);
        x.home(9, 9, 9);
        x.day(1);
        due("42 of put() and forge() alone", x.status(), 15);
        x.put(0, 0, 0);
        due("42 done", x.status(), 0);
        x.put(9, 0, 0);
        due("42 none such", x.status(), 1);
        x.forge(0, 4, 3);
        due("42 done", x.status(), 0);
    }
}
