/** The sentences of promises 14 to 21, each with a test of its own: the first and last that is allowed, and each refusal. */
public final class TextsBoundariesTest {
    private static final int NONE = HousingSociety.NONE, BAD = HousingSociety.BAD, STATE = HousingSociety.STATE,
            FULL = HousingSociety.FULL;

    private static Sentences s;

    public static void main(String[] args) throws Exception {
        s = new Sentences(args);
        feed14();
        propose15();
        fault16();
        vote17();
        carry18();
        carry18Refused();
        tear19();
        textTold20();
        text21();
        String[] places = new String[8];
        for (int i = 0; i < places.length; i++) {
            places[i] = "Promise " + (i + 14);
        }
        s.finish("TextsBoundariesTest", places);
    }

    private static HousingSociety withBytes(int n) {
        HousingSociety x = new HousingSociety();
        for (int i = 0; i < n; i++) {
            x.feed(1, ' ');
        }
        return x;
    }

    private static void feed14() {
        s.test("Promise 14", "The n lowest bytes of a number, the lowest first, come behind THE TAPE: how many it has.", () -> {
            String text = "points 1;may 1;votes 1;costs 1;";
            for (int n = 1; n <= 8; n++) {
                HousingSociety x = new HousingSociety();
                for (int at = 0; at < text.length(); at += n) {
                    int size = Math.min(n, text.length() - at);
                    // Bytes above the n lowest are not taken.
                    long bytes = Checks.packed(text, at, size) | (size == 8 ? 0 : -1L << 8 * size);
                    s.due("feed(" + size + ")", x.feed(size, bytes), at + size);
                }
                s.due("bytes of THE TAPE", x.count(7), text.length());
                s.due("the text", x.propose(), 1);
            }
            HousingSociety x = new HousingSociety();
            s.due("bytes below 0", x.feed(8, -1L), 8);
            x.propose();
            s.due("the first of them", x.fault(1), 0);
        });
        s.test("Promise 14", "BAD: n is not 1 .. 8.", () -> {
            s.range("n", Probe::busy, 1, 8, (x, n) -> x.feed(n, 0x3131313131313131L), BAD);
            for (int n : new int[] {Integer.MIN_VALUE, -1, 0, 9, Integer.MAX_VALUE}) {
                s.refused("BAD ahead of FULL", Probe::full, x -> x.feed(n, 32), BAD);
            }
        });
        s.test("Promise 14", "FULL.", () -> {
            for (int n = 1; n <= 8; n++) {
                int m = n;
                s.due("the last " + n, withBytes(400 - n).feed(n, 0x2020202020202020L), 400);
                s.refused("one too many, " + n, () -> withBytes(401 - m), x -> x.feed(m, 0x2020202020202020L), FULL);
                s.refused("when all is full, " + n, Probe::full, x -> x.feed(m, 32), FULL);
            }
            HousingSociety x = withBytes(396);
            s.due("what does not fit as a whole", x.feed(5, 0x2020202020202020L), FULL);
            s.due("is not taken in part", x.count(7), 396);
        });
    }

    private static void propose15() {
        s.test("Promise 15", "THE TAPE, which is empty then, is PROPOSED as a TEXT: its number;", () -> {
            HousingSociety x = new HousingSociety();
            for (int text = 1; text < 12; text++) {
                s.due("propose", Checks.propose(x, Probe.FREE), text);
                s.due("THE TAPE", x.count(7), 0);
                s.due("TEXTS", x.count(5), text + 1);
                s.due("CARRIED", x.textTold(text, 0), 0);
            }
            s.due("one is not a part of the next", x.textTold(11, 6), Probe.FREE.length());
        });
        s.test("Promise 15", "-10 less the kind of its FAULT.", () -> {
            HousingSociety x = new HousingSociety();
            s.due("an empty TAPE", x.propose(), -11);
            s.due("kind 1", Checks.propose(x, "points 1;may 1;votes 1;costs 1"), -11);
            s.due("THE TAPE", x.count(7), 0);
            s.due("kind 2", Checks.propose(x, "points 1;may 1;votes 1;costs debt;"), -12);
            s.due("THE TAPE", x.count(7), 0);
            s.due("TEXTS", x.count(5), 1);
            s.due("none such", x.textTold(1, 0), BAD);
            s.due("what comes then", Checks.propose(x, Probe.FREE), 1);
        });
        s.test("Promise 15", "FULL: no TEXT more has room (THE TAPE stays).", () -> {
            s.refused("blanks", Probe::full, HousingSociety::propose, FULL);
            HousingSociety x = new HousingSociety();
            for (int i = 1; i < 12; i++) {
                Checks.propose(x, Probe.FREE);
            }
            s.due("an empty TAPE", x.propose(), FULL);
            Checks.feed(x, Probe.FREE);
            s.due("a TEXT", x.propose(), FULL);
            s.due("THE TAPE stays", x.count(7), Probe.FREE.length());
            x.tear(11);
            s.due("a VOID TEXT makes no room", x.propose(), FULL);
            s.due("TEXTS", x.count(5), 12);
        });
    }

    private static void fault16() {
        s.test("Promise 16", "Of the latest propose() (but FULL): 0 the kind, 1 the place of its FAULT", () -> {
            HousingSociety x = new HousingSociety();
            x.propose();
            s.due("the first place, the kind", x.fault(0), 1);
            s.due("the first place", x.fault(1), 0);
            Checks.propose(x, "points members;may 1;votes 1;costs 1;");
            s.due("kind 2", x.fault(0), 2);
            s.due("its place", x.fault(1), 7);
            Checks.feed(x, "may");
            s.due("it stays till propose(), the kind", x.fault(0), 2);
            s.due("it stays till propose(), the place", x.fault(1), 7);
            x.propose();
            s.due("of the latest one", x.fault(0), 1);
            HousingSociety y = withBytes(400);
            y.propose();
            s.due("the last place", y.fault(1), 400);
            HousingSociety z = new HousingSociety();
            for (int i = 1; i < 11; i++) {
                Checks.propose(z, Probe.FREE);
            }
            Checks.propose(z, "points -");
            Checks.propose(z, Probe.FREE);
            s.due("without one", z.fault(0), 0);
            Checks.propose(z, "points +");
            s.due("but FULL, the kind", z.fault(0), 0);
            s.due("but FULL, the place", z.fault(1), NONE);
            s.due("in full() there was none", Probe.full().fault(0), 0);
        });
        s.test("Promise 16", "(0, NONE without one, or ahead of any).", () -> {
            HousingSociety x = new HousingSociety();
            s.due("ahead of any, the kind", x.fault(0), 0);
            s.due("ahead of any, the place", x.fault(1), NONE);
            x.propose();
            Checks.propose(x, Probe.FREE);
            s.due("without one, the kind", x.fault(0), 0);
            s.due("without one, the place", x.fault(1), NONE);
        });
        s.test("Promise 16", "BAD.", () -> {
            s.range("what", Probe::busy, 0, 1, HousingSociety::fault, BAD);
            s.range("what, ahead of any", HousingSociety::new, 0, 1, HousingSociety::fault, BAD);
        });
    }

    private static void vote17() {
        s.test("Promise 17", "A MEMBER VOTES for a TEXT (yes), or against it: how many yes VOTES it has.", () -> {
            HousingSociety x = Checks.society(0, 24);
            Checks.propose(x, Probe.FREE);
            Checks.propose(x, Probe.FREE);
            s.due("against it, the first one", x.vote(23, 1, false), 0);
            for (int member = 0; member < 23; member++) {
                s.due("for it", x.vote(member, 1, true), member + 1);
            }
            s.due("yes VOTES", x.textTold(1, 3), 23);
            s.due("no VOTES", x.textTold(1, 4), 1);
            s.due("for another TEXT", x.vote(23, 2, true), 1);
        });
        s.test("Promise 17", "BAD;", () -> {
            s.range("member", Probe::busy, 0, 9, (x, n) -> x.vote(n, 1, true), BAD);
            s.range("text", Probe::busy, 0, 4, (x, n) -> x.vote(5, n, false), BAD);
            s.due("there are no MEMBERS", new HousingSociety().vote(0, 0, true), BAD);
            s.refused("BAD ahead of STATE: not HERE", Probe::busy, x -> x.vote(4, 5, true), BAD);
            s.refused("BAD ahead of STATE: CARRIED", Probe::busy, x -> x.vote(10, 2, true), BAD);
        });
        s.test("Promise 17", "STATE: it is CARRIED, or VOID;", () -> {
            for (boolean yes : new boolean[] {true, false}) {
                s.refused("TEXT 0", Probe::busy, x -> x.vote(9, 0, yes), STATE);
                s.refused("one that is IN FORCE", Probe::busy, x -> x.vote(9, 2, yes), STATE);
                s.refused("one that is CARRIED for a later day", Probe::busy, x -> x.vote(8, 3, yes), STATE);
                s.refused("a VOID one", Probe::busy, x -> x.vote(9, 4, yes), STATE);
            }
            HousingSociety x = Probe.busy();
            x.tear(2);
            s.due("one that is VOID by another", x.vote(8, 3, true), STATE);
        });
        s.test("Promise 17", "the MEMBER is not HERE, or did VOTE.", () -> {
            for (boolean yes : new boolean[] {true, false}) {
                s.refused("not HERE", Probe::busy, x -> x.vote(4, 1, yes), STATE);
                s.refused("did VOTE for it", Probe::busy, x -> x.vote(0, 1, yes), STATE);
                s.refused("did VOTE against it", Probe::busy, x -> x.vote(1, 1, yes), STATE);
            }
            HousingSociety x = Probe.busy();
            x.leave(9);
            s.due("who went today", x.vote(9, 1, true), STATE);
            s.due("who came today", x.vote(x.member(1), 1, true), 2);
            x.leave(0);
            s.due("a VOTE of one that went counts", x.textTold(1, 3), 2);
        });
    }

    private static void carry18() {
        s.test("Promise 18", "It is CARRIED, and in force from a day on (today or later, 2000000 at most): 1;", () -> {
            HousingSociety x = Probe.busy();
            x.vote(8, 1, true);
            s.due("today", x.carry(1, 5), 1);
            s.due("CARRIED", x.textTold(1, 0), 1);
            s.due("its day", x.textTold(1, 2), 5);
            s.due("on the day ahead", x.text(4), 0);
            s.due("today", x.text(5), 1);
            HousingSociety y = Probe.busy();
            y.vote(8, 1, true);
            s.due("the last day", y.carry(1, 2000000), 1);
            s.due("on the day ahead", y.text(1999999), 3);
            s.due("on the last day", y.text(2000000), 1);
            s.due("today it is another", y.text(5), 2);
            HousingSociety z = Checks.society(0, 1);
            for (int i = 0; i < 100; i++) {
                z.day(10000);
            }
            Checks.propose(z, Probe.FREE);
            z.vote(0, 1, true);
            s.due("TODAY is the last day", z.carry(1, 1000000), 1);
            s.due("on the day ahead", z.text(999999), 0);
            s.due("today", z.text(1000000), 1);
        });
        s.test("Promise 18", "0: too few yes VOTES (and nothing is).", () -> {
            s.refused("one where two are needed", Probe::busy, x -> x.carry(1, 5), 0);
            s.refused("one where two are needed, later", Probe::busy, x -> x.carry(1, 2000000), 0);
            HousingSociety x = Probe.busy();
            x.vote(9, 1, false);
            s.due("no VOTES do not count", x.carry(1, 5), 0);
            x.vote(8, 1, true);
            s.due("as many as are needed", x.carry(1, 5), 1);
            HousingSociety y = Probe.busy();
            y.vote(7, 1, true);
            y.vote(8, 1, true);
            s.due("more than are needed", y.carry(1, 5), 1);
            HousingSociety z = new HousingSociety();
            Checks.propose(z, Probe.FREE);
            s.due("without MEMBERS", z.carry(1, 0), 0);
            s.due("it is not CARRIED", z.textTold(1, 0), 0);
            s.due("it HANGS on nothing", z.textTold(1, 5), NONE);
        });
    }

    private static void carry18Refused() {
        s.test("Promise 18", "BAD;", () -> {
            s.range("text", Probe::busy, 0, 4, (x, n) -> x.carry(n, 5), BAD);
            s.range("from", Probe::busy, 5, 2000000, (x, n) -> x.carry(1, n), BAD);
            s.range("from on the last day", Probe::late, 1000000, 2000000, (x, n) -> x.carry(1, n), BAD);
            s.refused("BAD ahead of STATE: CARRIED", Probe::busy, x -> x.carry(2, 4), BAD);
            s.refused("BAD ahead of STATE: VOID", Probe::busy, x -> x.carry(4, 2000001), BAD);
            s.refused("BAD ahead of 0", Probe::busy, x -> x.carry(1, 4), BAD);
        });
        s.test("Promise 18", "STATE: it is CARRIED, or VOID.", () -> {
            s.refused("TEXT 0", Probe::busy, x -> x.carry(0, 5), STATE);
            s.refused("one that is IN FORCE", Probe::busy, x -> x.carry(2, 5), STATE);
            s.refused("one that is CARRIED for a later day", Probe::busy, x -> x.carry(3, 5), STATE);
            s.refused("a VOID one", Probe::busy, x -> x.carry(4, 5), STATE);
            HousingSociety x = Probe.busy();
            x.tear(2);
            s.due("one that is VOID by another", x.carry(3, 5), STATE);
            // TEXT 0 needs one yes VOTE alone, which TEXT 1 has: STATE comes ahead of 0 all the same.
            s.due("behind it TEXT 0 is asked", x.carry(1, 5), 1);
        });
    }

    /** 1 and 3 HANG on 0, 2 on 1, 4 on 2, 5 on 4 and 6 is PROPOSED alone; they were CARRIED as 3, 1, 2, 4, 5. */
    private static HousingSociety chain() {
        HousingSociety x = Checks.society(1, 1);
        for (int i = 1; i <= 6; i++) {
            Checks.propose(x, Probe.FREE);
            x.vote(0, i, true);
        }
        x.carry(3, 100);
        for (int text : new int[] {1, 2, 4, 5}) {
            x.carry(text, 0);
        }
        return x;
    }

    private static void tear19() {
        s.test("Promise 19", "A TEXT is VOID: how many became VOID.", () -> {
            s.row("it HANGS on", chain(), (x, text) -> x.textTold(text, 5), NONE, 0, 1, 0, 2, 4, NONE);
            int[] counts = {0, 4, 3, 1, 2, 1, 1};
            for (int text = 1; text <= 6; text++) {
                HousingSociety x = chain();
                s.due("tear(" + text + ")", x.tear(text), counts[text]);
                s.due("it is VOID", x.textTold(text, 1), 1);
            }
            HousingSociety x = chain();
            s.due("the last of a chain", x.tear(5), 1);
            s.due("what was VOID is not counted again", x.tear(1), 3);
            s.row("VOID", x, (y, text) -> y.textTold(text, 1), 0, 1, 1, 0, 1, 1, 0);
        });
        s.test("Promise 19", "BAD: also TEXT 0;", () -> {
            s.range("text", Probe::busy, 1, 4, HousingSociety::tear, BAD);
            s.refused("TEXT 0", Probe::busy, x -> x.tear(0), BAD);
            s.refused("TEXT 0 alone", HousingSociety::new, x -> x.tear(0), BAD);
            s.refused("the last of all", Probe::full, x -> x.tear(12), BAD);
            s.due("the last one", Probe.full().tear(11), 1);
        });
        s.test("Promise 19", "STATE: it is.", () -> {
            s.refused("a VOID one", Probe::busy, x -> x.tear(4), STATE);
            HousingSociety x = Probe.busy();
            s.due("one on which another HANGS", x.tear(2), 2);
            s.due("it again", x.tear(2), STATE);
            s.due("the other one", x.tear(3), STATE);
        });
    }

    private static void textTold20() {
        s.test("Promise 20", "Of a TEXT: 0 whether it is CARRIED, 1 VOID, 2 the day (NONE: not CARRIED), 3 yes VOTES, 4 no VOTES,"
            + " 5 the TEXT on which it HANGS (NONE), 6 bytes.", () -> {
                long[][] told = {{1, 0, 0, 0, 0, NONE, 42}, {0, 0, NONE, 1, 1, NONE, 31}, {1, 0, 5, 1, 0, 0, 56},
                    {1, 0, 50, 2, 0, 2, 53}, {0, 1, NONE, 1, 0, NONE, 31}};
                for (int text = 0; text < told.length; text++) {
                    int t = text;
                    s.row("TEXT " + text, Probe.busy(), (x, what) -> x.textTold(t, what), told[text]);
                }
                HousingSociety x = Probe.busy();
                x.tear(2);
                s.row("VOID, and CARRIED", x, (y, what) -> y.textTold(3, what), 1, 1, 50, 2, 0, 2, 53);
                StringBuilder longest = new StringBuilder(Probe.FREE);
                while (longest.length() < 400) {
                    longest.append(' ');
                }
                HousingSociety y = new HousingSociety();
                Checks.propose(y, longest.toString());
                s.due("the most bytes", y.textTold(1, 6), 400);
                Checks.propose(y, "points1;may1;votes1;costs1;");
                s.due("the least bytes", y.textTold(2, 6), 27);
            });
        s.test("Promise 20", "BAD.", () -> {
            s.range("text", Probe::busy, 0, 4, (x, n) -> x.textTold(n, 0), BAD);
            s.range("what", Probe::busy, 0, 6, (x, n) -> x.textTold(0, n), BAD);
            s.range("the last of all", Probe::full, 0, 11, (x, n) -> x.textTold(n, 0), BAD);
        });
    }

    private static void text21() {
        s.test("Promise 21", "The TEXT IN FORCE on a day (0 .. 2000000).", () -> {
            HousingSociety x = Probe.busy();
            int[][] days = {{0, 0}, {4, 0}, {5, 2}, {49, 2}, {50, 3}, {2000000, 3}};
            for (int[] d : days) {
                s.due("on day " + d[0], x.text(d[0]), d[1]);
            }
            x.tear(3);
            s.due("without a VOID one", x.text(50), 2);
            x.tear(2);
            s.due("without all", x.text(2000000), 0);
            s.range("day", Probe::busy, 0, 2000000, HousingSociety::text, BAD);
        });
        s.test("Promise 21", "BAD.", () -> {
            for (int day : new int[] {Integer.MIN_VALUE, -1, 2000001, Integer.MAX_VALUE}) {
                s.refused("on day " + day, HousingSociety::new, x -> x.text(day), BAD);
                s.refused("late, on day " + day, Probe::late, x -> x.text(day), BAD);
            }
        });
    }
}
