/** Societies in which there is much to be changed by mistake, and a look into all that an object has. */
final class Probe {
    static final String FREE = "points 1;may 1;votes 0;costs 1;";

    private static final int[][] HOMES =
        {{0, 1, 1}, {1, 2, 10}, {2, 3, 50}, {3, 6, 100}, {0, 4, 7}, {1, 1, 99}, {2, 2, 2}};
    private static final String HALF_A_TEXT = "points 3;may 1;vot", OTHER_HALF = "es 0;costs 1;";

    private Probe() { }

    /**
     * TODAY is 5. HOMES 0 .. 6, MEMBERS 0 .. 9, of whom 4 has gone and 9 has nothing. RIGHTS: 0 RIGHT of 0 to HOME 0, 1 LET
     * of 1 to HOME 1 till 30, 2 was RIGHT of 2, 3 JOINT of 2 and 3 to HOME 2, 4 was RIGHT of 4, 5 was JOINT of 4 and 5, 6
     * GUEST of 6 in HOME 0 till 20, 7 LEFT of 5 to HOME 3. HOMES 4 and 5 are on OFFER, HOME 6 is EMPTY. TEXTS: 1 is
     * PROPOSED, with votes of 0 and 1; 2 is IN FORCE; 3, which HANGS on it, is from 50 on; 4 is VOID. THE ORDER is 8, 7, 6, 0;
     * 8 refused HOME 4. COSTS 0 and 1.
     */
    static HousingSociety busy() {
        HousingSociety x = new HousingSociety();
        for (int[] h : HOMES) {
            x.home(h[0], h[1], h[2]);
        }
        for (int i = 0; i < 10; i++) {
            x.member(1 + i % 9);
        }
        x.right(0, 0, 0, 0);
        x.right(1, 1, 1, 30);
        x.right(0, 2, 2, 0);
        x.join(2, 3);
        x.right(0, 3, 4, 0);
        x.join(4, 5);
        x.right(2, 0, 6, 20);
        x.wait(6);
        x.day(3);
        x.leave(4);
        x.wait(7);
        x.wait(0);
        x.day(2);
        x.wait(8);
        giveTexts(x);
        giveOffersAndWishes(x);
        giveCoins(x);
        fillTrays(x);
        return x;
    }

    private static void giveTexts(HousingSociety x) {
        Checks.propose(x, FREE);
        x.vote(0, 1, true);
        x.vote(1, 1, false);
        Checks.enact(x, "points waits + 10 * family; may 1; votes 2; costs rooms;", 1);
        Checks.propose(x, "points 0 - waits; may family; votes members; costs 1;");
        x.vote(0, 3, true);
        x.vote(9, 3, true);
        x.carry(3, 50);
        Checks.propose(x, FREE);
        x.vote(5, 4, true);
        x.tear(4);
        Checks.propose(x, "points ?");
        Checks.feed(x, HALF_A_TEXT);
    }

    private static void giveOffersAndWishes(HousingSociety x) {
        x.offer(4);
        x.take(4, false);
        x.offer(5);
        x.wish(0, 2, true);
        x.wish(0, 6, true);
        x.wish(2, 0, true);
        x.wish(3, 6, true);
        x.wish(5, 6, true);
        x.wish(9, 1, true);
    }

    private static void giveCoins(HousingSociety x) {
        x.cost(100);
        x.cost(7);
        x.pay(1, 50);
        x.year(0, 10);
        x.year(7, 400);
        x.year(39, 3000);
        x.gain(25);
    }

    private static void fillTrays(HousingSociety x) {
        x.put(1, 1, 1);
        x.put(2, 2, 0);
        x.put(3, 3, 0);
        x.put(4, 4, 0);
        x.put(5, 1, 7);
        x.forge(0, 7, 0);
    }

    /**
     * All is full: 12 HOMES, 24 MEMBERS, 60 RIGHTS, 12 TEXTS, 30 COSTS, 400 bytes. RIGHT 0 is of 0 to HOME 0, JOINT 2 of 1
     * and 2 to HOME 1; 22 has gone; HOME 11 is on OFFER to 20; 0 WISHES HOME 2, which is EMPTY.
     */
    static HousingSociety full() {
        HousingSociety x = Checks.society(12, 24);
        x.right(0, 0, 0, 0);
        x.right(0, 1, 1, 0);
        x.join(1, 2);
        x.leave(22);
        x.wait(20);
        x.offer(11);
        x.wish(0, 2, true);
        fillRights(x, 60);
        for (int i = 0; i < 30; i++) {
            x.cost(5 + i);
        }
        for (int i = 1; i < 12; i++) {
            Checks.propose(x, FREE);
        }
        for (int i = 0; i < 50; i++) {
            x.feed(8, 0x2020202020202020L);
        }
        return x;
    }

    /** GUESTS, all of the last MEMBER in HOME 10 or the last one ahead of it, till there are so many RIGHTS. */
    static void fillRights(HousingSociety x, int till) {
        for (int i = x.count(3); i < till; i++) {
            x.right(2, Math.min(10, x.count(0) - 1), x.count(1) - 1, 10000);
        }
    }

    /** As busy, on the last day that there can be. */
    static HousingSociety late() {
        HousingSociety x = busy();
        for (int i = 0; i < 99; i++) {
            x.day(10000);
        }
        x.day(9995);
        return x;
    }

    /**
     * All that an object has, also what only calls that change it tell: who VOTED, what is WISHED, who refused, what
     * stands on THE TAPE and in the TRAYS. The object is of no use behind it.
     */
    static String depths(HousingSociety x) {
        StringBuilder all = new StringBuilder(Checks.told(x));
        tellTrays(x, all);
        tellFund(x, all);
        tellTape(x, all);
        tellVotes(x, all);
        tellWishes(x, all);
        tellRefusals(x, all);
        return all.toString();
    }

    private static void tellTrays(HousingSociety x, StringBuilder all) {
        for (int tray = 0; tray < 6; tray++) {
            all.append("\n  tray ").append(tray);
            for (int what : new int[] {0, 1, 2, 3, 6}) {
                for (int n = 0; n < (what == 6 ? 1 : what == 0 ? 5 : 60); n++) {
                    all.append(' ').append(x.forge(tray, what, n)).append('/').append(x.status());
                }
            }
        }
    }

    private static void tellFund(HousingSociety x, StringBuilder all) {
        all.append("\n  fund");
        for (int y = 0; y < 40; y++) {
            all.append(' ').append(x.fund(y, 0));
        }
    }

    private static void tellTape(HousingSociety x, StringBuilder all) {
        for (int i = 0; i < OTHER_HALF.length(); i++) {
            x.feed(1, OTHER_HALF.charAt(i));
        }
        int text = x.propose();
        all.append("\n  tape ").append(text).append(' ').append(x.fault(0)).append(' ').append(x.fault(1));
        all.append(' ').append(x.count(7)).append(' ').append(x.textTold(text, 6));
    }

    private static void tellVotes(HousingSociety x, StringBuilder all) {
        for (int text = 0; text < x.count(5); text++) {
            all.append("\n  votes ");
            for (int member = 0; member < x.count(1); member++) {
                all.append(' ').append(x.vote(member, text, member % 3 != 0));
            }
        }
    }

    private static void tellWishes(HousingSociety x, StringBuilder all) {
        for (int member = 0; member < x.count(1); member++) {
            all.append("\n  wishes ");
            for (int home = 0; home < x.count(0); home++) {
                all.append(' ').append(x.wish(member, home, false));
            }
        }
    }

    private static void tellRefusals(HousingSociety x, StringBuilder all) {
        for (int home = 0; home < x.count(0); home++) {
            all.append("\n  refuse ").append(home);
            for (int i = 0; i < 24; i++) {
                all.append(' ').append(x.take(home, false));
            }
            all.append(' ').append(x.withdraw(home)).append(' ').append(x.offer(home));
        }
    }
}
