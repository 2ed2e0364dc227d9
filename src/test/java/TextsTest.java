import java.util.Random;

/** Texts: their faults and what they are worth, by hand and by chance. */
public final class TextsTest {
    private static final Checks checks = new Checks();
    private static final String REST = ";may 1;votes 1;costs 1;";

    public static void main(String[] args) {
        partsAndEnds();
        tokens();
        grammar();
        depth();
        names();
        worths();
        wrapping();
        byChance();
        checks.finish("TextsTest");
    }

    /** place is -1 for a text without a fault. */
    private static void fault(String text, int kind, int place) {
        HousingSociety x = new HousingSociety();
        checks.due("propose " + text, Checks.propose(x, text), kind == 0 ? 1 : -10 - kind);
        checks.due("kind of " + text, x.fault(0), kind);
        checks.due("place of " + text, x.fault(1), place);
    }

    private static void good(String e) {
        fault("points " + e + REST, 0, -1);
    }

    /** at is the place in the E. */
    private static void bad(String e, int at) {
        fault("points " + e + REST, 1, 7 + at);
    }

    private static void partsAndEnds() {
        fault("", 1, 0);
        fault("  \n ", 1, 4);
        fault("points", 1, 6);
        fault("points  ", 1, 8);
        fault("points 1", 1, 8);
        fault("points 1;", 1, 9);
        fault("may 1;", 1, 0);
        fault("points 1; votes 1;", 1, 10);
        fault("points 1; may 1; points 1;", 1, 17);
        fault("points 1; may 1; votes 1; costs 1", 1, 33);
        fault("points 1; may 1; votes 1; costs 1; ", 0, -1);
        fault(" \npoints 1; may 1; votes 1; costs 1;\n", 0, -1);
        fault("points 1; may 1; votes 1; costs 1; ;", 1, 35);
        fault("points 1; may 1; votes 1; costs 1; points", 1, 35);
        fault("points 1; may 1; votes 1; costs 1; ?", 1, 35);
        fault("points 1; may 1; votes 1; costs 1; zzz", 1, 35);
        fault("points1;may1;votes1;costs1;", 0, -1);
        fault("points1may1;votes1;costs1;", 1, 7);
        fault("points;may 1;votes 1;costs 1;", 1, 6);
        fault("pointsmay;", 1, 0);
    }

    private static void tokens() {
        good("waits");
        bad("wait", 0);
        bad("waitss", 0);
        bad("abcdefgh", 0);
        bad("1 + abcdefghi", 4);
        bad("1 + familywaits", 4);
        good("999999");
        good("000000");
        bad("1000000", 0);
        bad("0000001", 0);
        bad("1 + 1234567 + abcdefghi", 4);
        good("1or 2");
        good("1or2and3");
        bad("1or2and3x", 8);
        bad("waitsor 2", 0);
        bad("1 + Waits", 4);
        bad("1 + \t2", 4);
        bad("1 + \r2", 4);
        bad("1 > 2", 2);
        bad("1 \0", 2);
        bad("1 \u00e1", 2);
        bad("1 \u0085", 2);
        good("1\n+\n 2 ");
        bad("1 2", 2);
        bad("waits waits", 6);
        bad("1,", 1);
    }

    private static void grammar() {
        bad("or 1", 0);
        bad("1 or", 4);
        bad("1 or or 1", 5);
        bad("1 and", 5);
        bad("and", 0);
        good("not 1");
        bad("not", 3);
        bad("not not", 7);
        bad("-", 1);
        bad("1 - -", 5);
        bad("(", 1);
        bad("not (not", 8);
        good("not not 1 and not 0 or not 1");
        bad("1 not 2", 2);
        bad("1 + not 2", 4);
        bad("1 * not 2", 4);
        bad("1 < not 2", 4);
        bad("- not 2", 2);
        good("(not 2)");
        good("1 < (not 2)");
        good("not 1 < 2");
        good("1 < 2");
        bad("1 < 2 < 3", 6);
        bad("1 < 2 = 3", 6);
        bad("not 1 = 2 = 3", 10);
        good("(1 < 2) < 3");
        good("1 < (2 = 3)");
        good("1 < 2 and 3 < 4 or 5 = 6");
        good("1 < 2 + 3 * 4");
        bad("< 1", 0);
        bad("1 <", 3);
        bad("1 <= 2", 3);
        bad("+ 1", 0);
        good("- 1");
        good("--1");
        good("1--1");
        good("1 - - - 1 * - 2");
        bad("1 +", 3);
        bad("1 ++ 1", 3);
        good("1 +- 1");
        bad("1 -+ 1", 3);
        bad("1 *", 3);
        bad("* 1", 0);
        bad("()", 1);
        bad("(1", 2);
        bad("1)", 1);
        bad("(1))", 3);
        bad("(1)(1)", 3);
        bad("1 (2)", 2);
        bad("(1;", 2);
        good("(1 or 2) and (3)");
        bad("points", 0);
        bad("may", 0);
        bad("1 votes", 2);
        bad("members and", 11);
    }

    private static void depth() {
        String eight = "((((((((";
        String close = "))))))))";
        good(eight + "1" + close);
        bad(eight + "(1)" + close, 8);
        bad(eight + "-1" + close, 8);
        bad(eight + "not 1" + close, 8);
        good(eight + "1 - 1" + close);
        good("--------1");
        bad("---------1", 8);
        bad("--------(1)", 8);
        good("not not not not not not not not 1");
        bad("not not not not not not not not not 1", 32);
        bad("not not not not not not not not (1)", 32);
        bad("not not not not not not not not -1", 32);
        good("not not not not (-(-1) < 2)");
        bad("not not not not (-(--1) < 2)", 20);
        good("--------1 + --------1 * --------1");
        good("not not not not not not not not 1 and " + eight + "1" + close + " or not not not not not not not not 1");
        good(eight + "1" + close + "*" + eight + "1" + close);
        good("not (((((((1) + (1) ))))))");
        bad("not (((((((1) + ((1)) ))))))", 17);
        // What not belongs to has not ended behind its comparison's sign, but has behind an and.
        bad("not 1 < " + eight + "1" + close, 15);
        good("not 1 and " + eight + "1" + close);
        good("-1 + " + eight + "1" + close);
        bad("-" + eight + "1" + close, 8);
        bad(eight + "1" + close + ")", 17);
        bad(eight + "(", 8);
    }

    private static void names() {
        String[] all = {"waits", "family", "rooms", "joined", "debt", "stair", "share", "members"};
        String[] may = {"1111111.", "1111111.", ".......1", ".11..11."};
        String[] parts = {"points ", "may ", "votes ", "costs "};
        for (int part = 0; part < 4; part++) {
            for (int name = 0; name < 8; name++) {
                StringBuilder text = new StringBuilder();
                int place = 0;
                for (int i = 0; i < 4; i++) {
                    text.append(parts[i]);
                    place = i == part ? text.length() + 4 : place;
                    text.append(i == part ? "2 * " + all[name] : "7").append(";");
                }
                boolean mayStand = may[part].charAt(name) == '1';
                fault(text.toString(), mayStand ? 0 : 2, mayStand ? -1 : place);
            }
        }
        fault("points waits + members * members; may members; votes 1; costs waits;", 2, 15);
        fault("points 1; may 1; votes waits; costs debt;", 2, 23);
        fault("points members; may 1; votes 1; costs 1; 1", 1, 41);
        fault("points members; may 1 votes 1; costs 1;", 1, 22);
    }

    private static void worth(String e, long want) {
        HousingSociety x = new HousingSociety();
        x.home(3, 5, 70);
        x.member(4);
        x.day(10);
        x.wait(0);
        x.day(2);
        x.pay(0, 6);
        Checks.enact(x, "points " + e + "; may " + e + "; votes 1; costs 1;", 1);
        checks.due("points " + e, x.points(0, 0, 0), want);
        checks.due("may " + e, x.points(0, 0, 1), want);
    }

    private static void worths() {
        worth("waits", 2);
        worth("family", 4);
        worth("rooms", 5);
        worth("joined", 12);
        worth("debt", -6);
        worth("stair", 3);
        worth("share", 70);
        worth("1 + 2 * 3", 7);
        worth("(1 + 2) * 3", 9);
        worth("10 - 2 - 3", 5);
        worth("10 - (2 - 3)", 11);
        worth("2 * 3 * 4", 24);
        worth("- 2 * 3", -6);
        worth("- 2 - 3", -5);
        worth("-(2 - 3)", 1);
        worth("1--1", 2);
        worth("007", 7);
        worth("7 or 0", 1);
        worth("0 or 0", 0);
        worth("0 or - 3", 1);
        worth("7 and 5", 1);
        worth("7 and 0", 0);
        worth("1 or 0 and 0", 1);
        worth("(1 or 0) and 0", 0);
        worth("0 and 0 or 7", 1);
        worth("not 0", 1);
        worth("not 7", 0);
        worth("not not 7", 1);
        worth("not 0 and 0", 0);
        worth("not 1 < 0", 1);
        worth("(not 1) < 0", 0);
        worth("not 0 + 1", 0);
        worth("1 < 2", 1);
        worth("2 < 2", 0);
        worth("3 < 2", 0);
        worth("2 = 2", 1);
        worth("2 = 3", 0);
        worth("-1 < 0", 1);
        worth("1 + 1 = 2 * 1", 1);
        worth("(1 < 2) = (3 < 4)", 1);
        worth("(7)", 7);
        worth("5 + (3 < 4) * 10 + (4 < 3) * 100", 15);
    }

    private static void wrapping() {
        worth("999999 * 999999 * 999999", 999999L * 999999L * 999999L);
        worth("999999 * 999999 * 999999 * 999999", 999999L * 999999L * 999999L * 999999L);
        String least = "65536 * 65536 * 65536 * 32768";
        worth(least, Long.MIN_VALUE);
        worth("-(" + least + ")", Long.MIN_VALUE);
        worth(least + " - 1", Long.MAX_VALUE);
        worth(least + " < 0", 1);
        worth("65536 * 65536 * 65536 * 65536", 0);
    }

    private static void byChance() {
        Random random = new Random(7);
        Texts texts = new Texts(random);
        for (int i = 0; i < 60000 && checks.isClean(); i++) {
            String text = i % 3 == 0 ? texts.strange() : i % 3 == 1 ? texts.spoilt() : texts.any();
            Grammar g = new Grammar(text);
            fault(text, g.faultKind(), g.faultPlace());
        }
    }
}
