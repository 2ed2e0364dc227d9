/** The sentences of promises 32 to 42, each with a test of its own: the first and last that is allowed, and each refusal. */
public final class CoinsBoundariesTest {
    private static final int BAD = HousingSociety.BAD, STATE = HousingSociety.STATE, FULL = HousingSociety.FULL;
    private static final long NO = HousingSociety.NO;
    private static final int LEAST = Integer.MIN_VALUE, MOST = Integer.MAX_VALUE;

    private static Sentences s;

    public static void main(String[] args) throws Exception {
        s = new Sentences(args);
        cost32();
        cost32Refused();
        parted33();
        pay34();
        year35();
        gain36();
        due37();
        fund38();
        count39();
        put40();
        put40Refused();
        forge41();
        forge41Rights();
        forge41Rows();
        forge41Copies();
        forge41Numbers();
        status42();
        String[] places = new String[11];
        for (int i = 0; i < places.length; i++) {
            places[i] = "Promise " + (i + 32);
        }
        s.finish("CoinsBoundariesTest", places);
    }

    private static void cost32() {
        s.test("Promise 32", "A COST of so many coins (1 .. 1000000) is PARTED: its number.", () -> {
            HousingSociety x = Probe.busy();
            s.due("one coin", x.cost(1), 2);
            s.row("one coin, by ROOMS 1, 2, 3, 6", x, (y, home) -> y.parted(2, home), 0, 0, 0, 1, 0, 0, 0);
            s.due("as many as there can be", x.cost(1000000), 3);
            s.row("a million", x, (y, home) -> y.parted(3, home), 83333, 166667, 250000, 500000, 0, 0, 0);
            s.due("COSTS", x.count(6), 4);
            s.range("coins", Probe::busy, 1, 1000000, HousingSociety::cost, BAD);
        });
        s.test("Promise 32", "BAD;", () -> {
            for (int coins : new int[] {LEAST, -1, 0, 1000001, MOST}) {
                s.refused("BAD ahead of STATE", HousingSociety::new, x -> x.cost(coins), BAD);
                s.refused("BAD ahead of FULL", Probe::full, x -> x.cost(coins), BAD);
            }
        });
    }

    /** As busy, and the TEXT IN FORCE has this for its costs. */
    private static HousingSociety busyBy(String costs) {
        HousingSociety x = Probe.busy();
        x.propose();
        Checks.enact(x, "points 1;may 1;votes 1;costs " + costs + ";", 10);
        return x;
    }

    private static HousingSociety fullWithoutHolders() {
        HousingSociety x = Probe.full();
        x.end(0);
        x.end(2);
        return x;
    }

    private static void cost32Refused() {
        s.test("Promise 32", "STATE: all weights are 0,", () -> {
            for (String costs : new String[] {"0", "-1", "0 - 999999 * 999999", "0 * rooms", "1 < 0", "rooms - 6"}) {
                s.refused("costs " + costs, () -> busyBy(costs), x -> x.cost(1), STATE);
                s.refused("costs " + costs, () -> busyBy(costs), x -> x.cost(1000000), STATE);
            }
            HousingSociety x = busyBy("rooms - 5");
            s.due("all but one", x.cost(9), 2);
            s.row("all but one", x, (y, home) -> y.parted(2, home), 0, 0, 0, 9, 0, 0, 0);
        });
        s.test("Promise 32", "or there is no HOME among which;", () -> {
            s.refused("no HOMES", HousingSociety::new, x -> x.cost(1), STATE);
            s.refused("EMPTY ones alone", () -> Checks.society(12, 2), x -> x.cost(1), STATE);
            HousingSociety x = Checks.society(1, 1);
            x.right(2, 0, 0, 9);
            s.due("a GUEST alone", x.cost(1), STATE);
            x.right(1, 0, 0, 4);
            x.day(3);
            s.due("on the last day of a LET", x.cost(1), 0);
            x.day(1);
            s.due("on the day TO of a LET", x.cost(1), STATE);
            s.refused("STATE ahead of FULL", CoinsBoundariesTest::fullWithoutHolders, y -> y.cost(1), STATE);
        });
        s.test("Promise 32", "FULL.", () -> {
            s.refused("one more", Probe::full, x -> x.cost(1), FULL);
            HousingSociety x = Checks.society(1, 1);
            x.right(0, 0, 0, 0);
            for (int i = 0; i < 30; i++) {
                s.due("cost", x.cost(1 + i), i);
            }
            s.due("one more", x.cost(1), FULL);
            s.due("the last one", x.parted(29, 0), 30);
            s.due("DEBT", x.pay(0, 0), 30 * 31 / 2);
        });
    }

    private static void parted33() {
        s.test("Promise 33", "What a HOME got of a COST.", () -> {
            // 100 and 7 by ROOMS 1, 2, 3, 6.
            s.row("COST 0", Probe.busy(), (x, home) -> x.parted(0, home), 8, 17, 25, 50, 0, 0, 0);
            s.row("COST 1", Probe.busy(), (x, home) -> x.parted(1, home), 1, 1, 2, 3, 0, 0, 0);
            HousingSociety x = Probe.busy();
            x.home(0, 1, 1);
            s.due("a HOME that came behind it", x.parted(0, 7), 0);
            x.end(0);
            s.due("one that is EMPTY now", x.parted(0, 0), 8);
            s.due("the last COST of the last HOME", Probe.full().parted(29, 11), 0);
        });
        s.test("Promise 33", "BAD.", () -> {
            s.range("cost", Probe::busy, 0, 1, (x, n) -> x.parted(n, 0), BAD);
            s.range("home", Probe::busy, 0, 6, (x, n) -> x.parted(0, n), BAD);
            s.range("the last of all", Probe::full, 0, 29, (x, n) -> x.parted(n, 0), BAD);
            s.range("the last HOME of all", Probe::full, 0, 11, (x, n) -> x.parted(0, n), BAD);
            s.due("there are none", Checks.society(1, 0).parted(0, 0), BAD);
        });
    }

    private static void pay34() {
        s.test("Promise 34", "A MEMBER pays n coins (0 .. 1000000): its DEBT.", () -> {
            HousingSociety x = Probe.busy();
            s.row("DEBTS", x, (y, member) -> y.pay(member, 0), 9, 18 - 50, 27, 0, 0, 53, 0, 0, 0, 0);
            s.due("one coin", x.pay(0, 1), 8);
            s.due("all", x.pay(0, 8), 0);
            s.due("more", x.pay(0, 1), -1);
            s.due("the most", x.pay(0, 1000000), -1000001);
            s.due("again", x.pay(0, 1000000), -2000001);
            s.due("who went", x.pay(4, 3), -3);
            s.due("another's DEBT", x.pay(5, 0), 53);
            HousingSociety y = Checks.society(1, 1);
            for (int i = 0; i < 500; i++) {
                y.pay(0, 1000000);
            }
            s.due("as much as a run can pay", y.pay(0, 0), -500000000);
        });
        s.test("Promise 34", "NO: no such.", () -> {
            s.range("member", Probe::busy, 0, 9, (x, n) -> x.pay(n, 1), NO);
            s.range("n", Probe::busy, 0, 1000000, (x, n) -> x.pay(0, n), NO);
            s.range("the last of all", Probe::full, 0, 23, (x, n) -> x.pay(n, 1), NO);
            s.due("there are none", new HousingSociety().pay(0, 0), NO);
        });
    }

    private static void year35() {
        s.test("Promise 35", "What a year costs becomes n (0 .. 1000000): what it was.", () -> {
            HousingSociety x = new HousingSociety();
            for (int y = 0; y < 40; y++) {
                s.due("at first, year " + y, x.year(y, 1000000), 0);
                s.due("the most", x.year(y, y + 1), 1000000);
            }
            for (int y = 0; y < 40; y++) {
                s.due("each has its own", x.year(y, 0), y + 1);
                s.due("the least", x.year(y, 0), 0);
            }
            s.range("n", Probe::busy, 0, 1000000, (y, n) -> y.year(7, n), BAD);
        });
        s.test("Promise 35", "BAD.", () -> s.range("y", Probe::busy, 0, 39, (x, y) -> x.year(y, 5), BAD));
    }

    private static void gain36() {
        s.test("Promise 36", "YIELD becomes n: what it was.", () -> {
            HousingSociety x = new HousingSociety();
            s.due("at first", x.gain(100), 0);
            s.due("the most", x.gain(0), 100);
            s.due("the least", x.gain(1), 0);
            s.due("YIELD", x.count(11), 1);
        });
        s.test("Promise 36", "BAD.", () -> s.range("n", Probe::busy, 0, 100, HousingSociety::gain, BAD));
    }

    private static void due37() {
        s.test("Promise 37", "THE DUE.", () -> {
            HousingSociety x = new HousingSociety();
            s.due("nothing costs", x.due(), 0);
            x.year(39, 1);
            s.due("a coin in the last year", x.due(), 1);
            x.year(39, 40);
            s.due("40 in the last year", x.due(), 1);
            x.year(39, 41);
            s.due("41 in the last year", x.due(), 2);
            x.year(0, 1000000);
            s.due("the most in the first year", x.due(), 1000000);
            x.gain(100);
            s.due("with the most YIELD", x.due(), 909091);
            s.refused("nothing is changed", Probe::busy, HousingSociety::due, Probe.busy().due());
            s.due("with it the FUND is not below 0", lowest(Probe.busy(), Probe.busy().due()) >= 0 ? 1 : 0, 1);
            s.due("with one less it is", lowest(Probe.busy(), Probe.busy().due() - 1) < 0 ? 1 : 0, 1);
        });
    }

    private static long lowest(HousingSociety x, int due) {
        long lowest = Long.MAX_VALUE;
        for (int y = 0; y < 40; y++) {
            lowest = Math.min(lowest, x.fund(y, due));
        }
        return lowest;
    }

    private static void fund38() {
        s.test("Promise 38", "What THE FUND has behind a year, with a due of n (0 .. 1000000).", () -> {
            HousingSociety x = new HousingSociety();
            s.due("the first year, 0", x.fund(0, 0), 0);
            s.due("the first year, the most", x.fund(0, 1000000), 1000000);
            s.due("the last year, the most", x.fund(39, 1000000), 40000000);
            x.year(0, 1000000);
            s.due("behind what it costs", x.fund(0, 1000000), 0);
            s.due("below 0", x.fund(0, 0), -1000000);
            for (int y = 0; y < 40; y++) {
                x.year(y, 1000000);
            }
            s.due("the least", x.fund(39, 0), -40000000);
            x.gain(100);
            long coins = 0;
            for (int y = 0; y < 40; y++) {
                coins = coins + coins / 10 - 1000000;
                s.due("the least with a YIELD, year " + y, x.fund(y, 0), coins);
            }
            s.refused("nothing is changed", Probe::busy, y -> y.fund(39, 1000000), Probe.busy().fund(39, 1000000));
        });
        s.test("Promise 38", "NO: no such.", () -> {
            s.range("y", Probe::busy, 0, 39, (x, y) -> x.fund(y, 5), NO);
            s.range("n", Probe::busy, 0, 1000000, (x, n) -> x.fund(0, n), NO);
        });
    }

    private static void count39() {
        s.test("Promise 39", "How many: 0 HOMES, 1 MEMBERS, 2 that are HERE, 3 RIGHTS, 4 in force today, 5 TEXTS, 6 COSTS, 7 bytes of"
            + " THE TAPE, 8 TODAY, 9 that WAIT, 10 OFFERS, 11 YIELD.", () -> {
                s.row("busy", Probe.busy(), HousingSociety::count, 7, 10, 9, 8, 5, 5, 2, 18, 5, 4, 2, 25);
                s.row("full", Probe.full(), HousingSociety::count, 12, 24, 23, 60, 59, 12, 30, 400, 0, 1, 1, 0);
                s.row("late", Probe.late(), HousingSociety::count, 7, 10, 9, 8, 3, 5, 2, 18, 1000000, 4, 2, 25);
                s.row("new", new HousingSociety(), HousingSociety::count, 0, 0, 0, 0, 0, 1, 0, 0, 0, 0, 0, 0);
                HousingSociety x = Checks.society(12, 24);
                for (int i = 0; i < 24; i++) {
                    x.wait(i);
                    x.offer(i);
                }
                s.due("all WAIT", x.count(9), 24);
                s.due("all are on OFFER", x.count(10), 12);
            });
        s.test("Promise 39", "BAD.", () -> s.range("what", Probe::busy, 0, 11, HousingSociety::count, BAD));
    }

    /** The answer of a put() or forge(), and STATUS behind it. */
    private static void host(HousingSociety x, String call, int got, int want, int status) {
        s.due(call, got, want);
        s.due(call + ", STATUS", x.status(), status);
    }

    private static void put40() {
        s.test("Promise 40", "A TRAY holds: what 0 nothing,", () -> {
            HousingSociety x = Probe.busy();
            for (int tray = 0; tray < 6; tray++) {
                host(x, "put", x.put(tray, 0, -7), 1, 0);
                host(x, "nothing is there", x.forge(tray, 1, 0), -1, 10);
            }
        });
        s.test("Promise 40", "1 RIGHT n,", () -> {
            for (int right : new int[] {0, 1, 2, 3, 4, 5, 6, 7}) {
                HousingSociety x = Probe.busy();
                host(x, "put", x.put(0, 1, right), 1, 0);
                host(x, "its HOME", x.forge(0, 0, x.rightTold(right, 0)), x.rightTold(right, 1), 0);
            }
            HousingSociety x = Probe.busy();
            x.put(0, 1, 0);
            x.join(0, 9);
            host(x, "a RIGHT that was joined since is of its KIND", x.forge(0, 0, 3), -1, 11);
            s.due("the last of all", Probe.full().put(0, 1, 59), 1);
        });
        s.test("Promise 40", "2 bytes,", () -> {
            HousingSociety x = Probe.busy();
            host(x, "put", x.put(0, 2, -9), 1, 0);
            host(x, "the last byte", x.forge(0, 1, 55), ';', 0);
            host(x, "one more", x.forge(0, 1, 56), -1, 12);
            x.day(45);
            host(x, "of the TEXT that was IN FORCE", x.forge(0, 1, 55), ';', 0);
            x.put(0, 2, 60);
            host(x, "of the TEXT IN FORCE", x.forge(0, 1, 7), '0', 0);
            host(x, "one more than it has", x.forge(0, 1, 53), -1, 12);
        });
        s.test("Promise 40", "3 DEBTS,", () -> {
            HousingSociety x = Probe.busy();
            host(x, "put", x.put(0, 3, 99), 1, 0);
            s.row("DEBT", x, (y, n) -> y.forge(0, 2, n), 9, -32, 27, 0, 0, 53, 0, 0, 0, 0);
            host(x, "one more", x.forge(0, 2, 10), -1, 12);
            x.member(1);
            x.pay(0, 5);
            host(x, "as they were", x.forge(0, 2, 0), 9, 0);
            host(x, "as many as there were", x.forge(0, 2, 10), -1, 12);
            HousingSociety y = new HousingSociety();
            y.put(0, 3, 0);
            host(y, "of no MEMBERS", y.forge(0, 2, 0), -1, 12);
            HousingSociety z = Probe.full();
            z.pay(23, 1000000);
            z.put(0, 3, 0);
            host(z, "of as many as there can be", z.forge(0, 2, 23), -1000000, 0);
            host(z, "one more", z.forge(0, 2, 24), -1, 12);
        });
    }

    private static void put40Refused() {
        s.test("Promise 40", "4 truths (n does not matter).", () -> {
            for (int n : new int[] {LEAST, -1, 0, 60, MOST}) {
                HousingSociety x = Probe.busy();
                host(x, "put", x.put(0, 4, n), 1, 0);
                s.row("EMPTY", x, (y, home) -> y.forge(0, 3, home), 0, 0, 0, 0, 1, 1, 1);
                host(x, "one more", x.forge(0, 3, 7), -1, 12);
                host(x, "nothing, with any n", x.put(1, 0, n), 1, 0);
                host(x, "bytes, with any n", x.put(1, 2, n), 1, 0);
                host(x, "DEBTS, with any n", x.put(1, 3, n), 1, 0);
            }
            HousingSociety x = Probe.busy();
            x.put(0, 4, 0);
            x.end(0);
            x.home(0, 1, 1);
            host(x, "as they were", x.forge(0, 3, 0), 0, 0);
            host(x, "as many as there were", x.forge(0, 3, 7), -1, 12);
            HousingSociety y = new HousingSociety();
            y.put(0, 4, 0);
            host(y, "of no HOMES", y.forge(0, 3, 0), -1, 12);
        });
        s.test("Promise 40", "Answers 1.", () -> {
            for (int tray = 0; tray < 6; tray++) {
                for (int what = 0; what < 5; what++) {
                    HousingSociety x = Probe.busy();
                    host(x, "put(" + tray + ", " + what + ", 0)", x.put(tray, what, 0), 1, 0);
                }
            }
        });
        s.test("Promise 40", "STATUS 1.", () -> {
            for (int wrong : new int[] {LEAST, -1, 6, MOST}) {
                noPut("no such TRAY", wrong, 0, 0);
                noPut("no such TRAY for a RIGHT", wrong, 1, 0);
            }
            for (int wrong : new int[] {LEAST, -1, 5, MOST}) {
                noPut("what is another", 1, wrong, 0);
            }
            for (int wrong : new int[] {LEAST, -1, 8, MOST}) {
                noPut("no such RIGHT", 1, 1, wrong);
            }
            HousingSociety x = new HousingSociety();
            host(x, "there are no RIGHTS", x.put(0, 1, 0), -1, 1);
            HousingSociety y = Probe.full();
            host(y, "the last RIGHT", y.put(0, 1, 59), 1, 0);
            host(y, "one more", y.put(0, 1, 60), -1, 1);
        });
    }

    /** STATUS apart, a put() that is refused changes nothing, no TRAY either. */
    private static void noPut(String call, int tray, int what, int n) {
        HousingSociety x = Probe.busy();
        host(x, call, x.put(tray, what, n), -1, 1);
        s.refused(call, () -> withStatus(1), y -> y.put(tray, what, n), -1);
    }

    /** STATUS apart, a forge() that is refused changes nothing. */
    private static void noForge(String call, int tray, int what, int n, int status) {
        HousingSociety x = Probe.busy();
        host(x, call, x.forge(tray, what, n), -1, status);
        s.refused(call, () -> withStatus(status), y -> y.forge(tray, what, n), -1);
    }

    /** As busy, with another STATUS. */
    private static HousingSociety withStatus(int status) {
        HousingSociety x = Probe.busy();
        switch (status) {
            case 1: x.put(6, 0, 0); break;
            case 10: x.forge(0, 8, 0); break;
            case 11: x.forge(1, 1, 0); break;
            case 12: x.forge(2, 1, -1); break;
            case 13: x.forge(0, 4, -1); break;
            case 14: x.forge(2, 6, 0); break;
            default: x.forge(0, 7, 0); break;
        }
        return x;
    }

    private static void forge41() {
        s.test("Promise 41", "What the host does with a TRAY's thing, by what (STATUS 1: another; no such TRAY; n outside -100 .. 100):",
            () -> {
                for (int what : new int[] {LEAST, -1, 9, MOST}) {
                    noForge("another what", 0, what, 1, 1);
                }
                for (int what = 0; what <= 8; what++) {
                    for (int tray : new int[] {LEAST, -1, 6, MOST}) {
                        noForge("no such TRAY", tray, what, 1, 1);
                    }
                    for (int n : new int[] {LEAST, -101, 101, MOST}) {
                        noForge("n outside", 0, what, n, 1);
                    }
                    for (int n : new int[] {-100, 100}) {
                        HousingSociety x = Probe.busy();
                        x.forge(0, what, n);
                        s.due("n inside", x.status() == 1 ? 1 : 0, 0);
                        x.forge(5, what, n);
                        s.due("the last TRAY", x.status() == 1 ? 1 : 0, 0);
                    }
                }
            });
    }

    private static void forge41Rights() {
        s.test("Promise 41", "0 it is taken for a RIGHT of KIND n modulo 5 (0 .. 4, also for n below 0) or one under that (under the"
            + " one above it, too): 11 if it is something else;", () -> {
                // By KINDS, RIGHTS of busy(); by n modulo 5, the KINDS that it takes.
                int[] rightOf = {0, 1, 6, 3, 7};
                String[] takes = {"01234", "12", "2", "3", "4"};
                for (int kind = 0; kind < 5; kind++) {
                    for (int n = -100; n <= 100; n++) {
                        HousingSociety x = Probe.busy();
                        x.put(0, 1, rightOf[kind]);
                        boolean fits = takes[((n % 5) + 5) % 5].indexOf('0' + kind) >= 0;
                        int home = x.rightTold(rightOf[kind], 1);
                        host(x, "KIND " + kind + ", n " + n, x.forge(0, 0, n), fits ? home : -1, fits ? 0 : 11);
                    }
                }
                for (int tray = 2; tray <= 4; tray++) {
                    for (int n = -5; n < 5; n++) {
                        noForge("a row, n " + n, tray, 0, n, 11);
                    }
                }
            });
        s.test("Promise 41", "then its HOME is asked: 10 if it is nothing; answers it.", () -> {
            for (int n : new int[] {-100, -6, -5, -4, -3, -2, -1, 0, 1, 2, 3, 4, 5, 100}) {
                noForge("nothing, n " + n, 0, 0, n, 10);
            }
            HousingSociety x = Checks.society(12, 12);
            for (int home = 0; home < 12; home++) {
                x.put(0, 1, x.right(0, home, home, 0));
                host(x, "HOME " + home, x.forge(0, 0, 0), home, 0);
            }
            x.end(11);
            host(x, "of a RIGHT that is not in force", x.forge(0, 0, 0), 11, 0);
        });
    }

    private static void forge41Rows() {
        s.test("Promise 41", "1 for bytes (11), the n-th: 10, 12.", () -> {
            String text = "points waits + 10 * family; may 1; votes 2; costs rooms;";
            HousingSociety x = Probe.busy();
            for (int n = 0; n < text.length(); n++) {
                host(x, "byte " + n, x.forge(2, 1, n), text.charAt(n), 0);
            }
            notInRow("bytes", 2, 1, text.length());
        });
        s.test("Promise 41", "2 for DEBTS (11), the n-th, as an int (its lowest bits): 10, 12.", () -> {
            int[] debts = {9, -32, 27, 0, 0, 53, 0, 0, 0, 0};
            HousingSociety x = Probe.busy();
            for (int n = 0; n < debts.length; n++) {
                host(x, "DEBT " + n, x.forge(3, 2, n), debts[n], 0);
            }
            notInRow("DEBTS", 3, 2, debts.length);
        });
        s.test("Promise 41", "3 for truths (11), that of HOME n (1, 0): 10, 12.", () -> {
            int[] truths = {0, 0, 0, 0, 1, 1, 1};
            HousingSociety x = Probe.busy();
            for (int n = 0; n < truths.length; n++) {
                host(x, "HOME " + n, x.forge(4, 3, n), truths[n], 0);
            }
            notInRow("truths", 4, 3, truths.length);
            HousingSociety y = Checks.society(12, 0);
            y.put(0, 4, 0);
            host(y, "the last of all", y.forge(0, 3, 11), 1, 0);
            host(y, "behind all", y.forge(0, 3, 12), -1, 12);
        });
    }

    /** What is outside of the row in a TRAY, of what there is none, and other things: 11 and 10 come ahead of 12. */
    private static void notInRow(String row, int tray, int what, int size) {
        for (int n : new int[] {-100, -1, size, 100}) {
            noForge(row + ", n " + n, tray, what, n, 12);
        }
        for (int n : new int[] {-1, 0, 100}) {
            noForge(row + " of nothing, n " + n, 0, what, n, 10);
            for (int other = 1; other <= 5; other++) {
                if (other != tray) {
                    noForge(row + " of another thing, n " + n, other, what, n, 11);
                }
            }
        }
    }

    private static void forge41Copies() {
        s.test("Promise 41", "5 n bytes of it, from its second one on, taken for bytes (11), are copied to a new row of 9 from place n on:"
            + " 10, 12 (n below 0, or they do not stand there in both);", () -> {
                for (int n : new int[] {-100, -1, 5, 6, 9, 10, 55, 56, 100}) {
                    noForge("n " + n, 2, 5, n, 12);
                }
                for (int n : new int[] {-1, 0, 5, 100}) {
                    noForge("nothing, n " + n, 0, 5, n, 10);
                    for (int other : new int[] {1, 3, 4, 5}) {
                        noForge("another thing, n " + n, other, 5, n, 11);
                    }
                }
            });
        s.test("Promise 41", "answers the sum of the row.", () -> {
            int[] sums = {0, 'o', 'o' + 'i', 'o' + 'i' + 'n', 'o' + 'i' + 'n' + 't'};
            HousingSociety x = Probe.busy();
            for (int n = 0; n < sums.length; n++) {
                host(x, "n " + n, x.forge(2, 5, n), sums[n], 0);
            }
            host(x, "the row is new each time", x.forge(2, 5, 1), 'o', 0);
        });
    }

    private static void forge41Numbers() {
        s.test("Promise 41", "4 a row of n bytes is made: 13; answers n.", () -> {
            for (int tray = 0; tray < 6; tray++) {
                HousingSociety x = Probe.busy();
                for (int n : new int[] {0, 1, 100}) {
                    host(x, "n " + n, x.forge(tray, 4, n), n, 0);
                }
                noForge("n -1", tray, 4, -1, 13);
                noForge("n -100", tray, 4, -100, 13);
            }
        });
        s.test("Promise 41", "6 it is laid into a row that takes LET and GUEST ones (14: it is another thing):", () -> {
            for (int right : new int[] {0, 2, 3, 5, 7}) {
                HousingSociety x = Probe.busy();
                x.put(1, 1, right);
                host(x, "RIGHT " + right, x.forge(1, 6, 0), -1, 14);
            }
            for (int tray = 2; tray <= 5; tray++) {
                for (int n : new int[] {-100, 0, 100}) {
                    noForge("TRAY " + tray, tray, 6, n, 14);
                }
            }
        });
        s.test("Promise 41", "answers its HOME (0: nothing).", () -> {
            for (int n : new int[] {-100, 0, 100}) {
                HousingSociety x = Probe.busy();
                host(x, "a LET", x.forge(1, 6, n), 1, 0);
                x.put(1, 1, x.right(2, 6, 9, 1));
                host(x, "a GUEST", x.forge(1, 6, n), 6, 0);
                host(x, "nothing", x.forge(0, 6, n), 0, 0);
            }
        });
        s.test("Promise 41", "7 1000 is divided by n: 15; answers it.", () -> {
            int[][] quotients = {{1, 1000}, {-1, -1000}, {3, 333}, {-3, -333}, {7, 142}, {-7, -142}, {100, 10}, {-100, -10},
                {99, 10}, {-99, -10}};
            for (int tray = 0; tray < 6; tray++) {
                HousingSociety x = Probe.busy();
                for (int[] q : quotients) {
                    host(x, "by " + q[0], x.forge(tray, 7, q[0]), q[1], 0);
                }
                noForge("by 0", tray, 7, 0, 15);
            }
        });
        s.test("Promise 41", "8 a failure is thrown that is none: 10.", () -> {
            for (int tray = 0; tray < 6; tray++) {
                for (int n : new int[] {-100, 0, 100}) {
                    noForge("TRAY " + tray + ", n " + n, tray, 8, n, 10);
                }
            }
        });
    }

    private static void status42() {
        s.test("Promise 42", "STATUS.", () -> {
            s.due("at first", new HousingSociety().status(), 0);
            for (int status : new int[] {1, 10, 11, 12, 13, 14, 15}) {
                HousingSociety x = withStatus(status);
                s.due("STATUS", x.status(), status);
                s.due("again", x.status(), status);
                x.day(-1);
                x.home(9, 9, 9);
                x.propose();
                x.cost(1);
                s.due("other calls do not change it", x.status(), status);
                x.forge(0, 4, 0);
                s.due("done", x.status(), 0);
            }
        });
    }
}
