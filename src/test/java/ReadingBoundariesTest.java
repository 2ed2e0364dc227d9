/** The sentences of "Terms", part 2: how TEXTS are read, what they are worth, and how they come IN FORCE. */
public final class ReadingBoundariesTest {
    private static final int NONE = HousingSociety.NONE, BAD = HousingSociety.BAD, STATE = HousingSociety.STATE,
            FULL = HousingSociety.FULL;
    private static final String REST = ";may 1;votes 1;costs 1;";
    private static final String OPEN8 = "((((((((", CLOSE8 = "))))))))", NOT8 = "not not not not not not not not ";

    private static Sentences s;

    public static void main(String[] args) throws Exception {
        s = new Sentences(args);
        tape();
        tokens();
        signsAndBlanks();
        parts();
        rules();
        rulesOfOne();
        worths();
        faults();
        faultsOfTokens();
        faultsOfDepth();
        names();
        namesOfToday();
        votes();
        inForce();
        voids();
        s.finish("ReadingBoundariesTest", "Terms 2");
    }

    /** A TEXT and its FAULT; kind 0 for none. */
    private static void read(String text, int kind, int place) {
        HousingSociety x = new HousingSociety();
        s.due("propose " + text, Checks.propose(x, text), kind == 0 ? 1 : -10 - kind);
        s.due("kind of " + text, x.fault(0), kind);
        s.due("place of " + text, x.fault(1), place);
        s.due("TEXTS behind " + text, x.count(5), kind == 0 ? 2 : 1);
    }

    private static void good(String... es) {
        for (String e : es) {
            read("points " + e + REST, 0, NONE);
        }
    }

    /** The place is told in the E. */
    private static void bad(String e, int place) {
        read("points " + e + REST, 1, 7 + place);
    }

    /** A HOME of STAIR 3, ROOMS 5, SHARE 70; MEMBER 0 of FAMILY 4 came on day 0, WAITS since 10, has a DEBT of -6; it is 12. */
    private static void worth(String e, long want) {
        HousingSociety x = new HousingSociety();
        x.home(3, 5, 70);
        x.member(4);
        x.day(10);
        x.wait(0);
        x.day(2);
        x.pay(0, 6);
        Checks.enact(x, "points " + e + ";may " + e + ";votes 1;costs 1;", 1);
        s.due("points " + e, x.points(0, 0, 0), want);
        s.due("may " + e, x.points(0, 0, 1), want);
    }

    private static String padded(String text, int size) {
        StringBuilder all = new StringBuilder(text);
        while (all.length() < size) {
            all.insert(7, ' ');
        }
        return all.toString();
    }

    private static void tape() {
        s.test("Terms 2", "A TEXT is read from THE TAPE (400 bytes at most).", () -> {
            read(padded("points 1" + REST, 400), 0, NONE);
            read(padded("points 1" + REST, 399), 0, NONE);
            StringBuilder sum = new StringBuilder("points 1");
            while (sum.length() < 400 - REST.length() - 1) {
                sum.append("+1");
            }
            String longest = sum + (sum.length() + REST.length() < 400 ? " " : "") + REST;
            read(longest, 0, NONE);
            HousingSociety x = new HousingSociety();
            Checks.feed(x, longest);
            s.due("bytes", x.count(7), 400);
            s.due("one more", x.feed(1, ' '), FULL);
            s.due("it is read", x.propose(), 1);
            x.home(0, 1, 1);
            x.member(1);
            x.vote(0, 1, true);
            x.carry(1, 0);
            s.due("its worth", x.points(0, 0, 0), longest.chars().filter(c -> c == '+').count() + 1);
        });
        s.test("Terms 2", "(400 bytes at most)", () -> {
            // 11 TEXTS of 400 bytes, each worth its own number, of as many TOKENS as there can be.
            HousingSociety x = Checks.society(1, 1);
            for (int text = 1; text < 12; text++) {
                StringBuilder sum = new StringBuilder("points" + (100 + text));
                while (sum.length() + REST.length() < 399) {
                    sum.append("-1");
                }
                sum.append(REST);
                s.due("size", sum.length(), 400);
                s.due("propose", Checks.propose(x, sum.toString()), text);
                x.vote(0, text, true);
                x.carry(text, 0);
                s.due("its worth", x.points(0, 0, 0), 100 + text - sum.chars().filter(c -> c == '-').count());
                s.due("its may", x.points(0, 0, 1), 1);
            }
            // The last TOKEN ends with THE TAPE.
            for (String last : new String[] {"points", "point", "pointss", "members", "memberss", "waits", "1", "999999", "1234567", "(", "-"}) {
                StringBuilder text = new StringBuilder("points 1 +");
                while (text.length() + last.length() < 400) {
                    text.append(' ');
                }
                boolean isOne = last.equals("members") || last.equals("waits") || last.equals("1") || last.equals("999999");
                boolean canStand = isOne || last.equals("(") || last.equals("-");
                read(text + last, 1, canStand ? 400 : 400 - last.length());
            }
        });
    }

    private static void tokens() {
        s.test("Terms 2", "TOKENS, each as long as can be:", () -> {
            good("12", "1or2and3", "waits+family", "1<2", "(1)or(2)", "1or not 2");
            bad("waitsfamily", 0);
            bad("waitsor 1", 0);
            bad("1 ornot 2", 2);
            bad("notwaits", 0);
            read("pointswaits" + REST, 1, 0);
            read("points1;may1;votes1;costs1;", 0, NONE);
            worth("12", 12);
            bad("1 2", 2);
            bad("wai ts", 0);
        });
        s.test("Terms 2", "WORDS (a .. z, 8 at most),", () -> {
            good("joined", "family");
            read("points 1;may 1;votes members;costs 1;", 0, NONE);
            bad("abcdefgh", 0);
            bad("abcdefghi", 0);
            bad("membersss", 0);
            bad("familyfamily", 0);
            bad("1 + waits{", 9);
            bad("1 + `waits", 4);
            bad("1 + wAits", 4);
            bad("1 + waitS", 4);
            bad("Waits", 0);
            bad("waits1", 5);
            bad("1waits", 1);
            bad("waitsz", 0);
            bad("waitsa", 0);
            bad("1 + zwaits", 4);
            bad("1 + awaits", 4);
            StringBuilder longest = new StringBuilder("points ");
            while (longest.length() < 400) {
                longest.append('z');
            }
            read(longest.toString(), 1, 7);
        });
        s.test("Terms 2", "NUMBERS (digits, 6 at most),", () -> {
            good("0", "9", "999999", "100000", "000000", "000001");
            bad("1000000", 0);
            bad("0000000", 0);
            bad("9999999", 0);
            bad("1 + 1234567", 4);
            bad("1/", 1);
            bad("1:", 1);
            bad("/1", 0);
            bad(":1", 0);
            worth("999999", 999999);
            worth("000007", 7);
            worth("0", 0);
            worth("123456 + 7890", 131346);
            StringBuilder longest = new StringBuilder("points ");
            while (longest.length() < 400) {
                longest.append('9');
            }
            read(longest.toString(), 1, 7);
        });
    }

    private static void signsAndBlanks() {
        s.test("Terms 2", "SIGNS ( ) ; + - * < = ;", () -> {
            good("(1)", "1+1", "1-1", "1*1", "1<1", "1=1", "-1");
            for (char c = 0; c < 256; c++) {
                boolean isKnown = "();+-*<= \n".indexOf(c) >= 0 || c >= '0' && c <= '9' || c >= 'a' && c <= 'z';
                if (!isKnown) {
                    bad("1 " + c + " 1", 2);
                    bad("1" + c + "1", 1);
                    bad(c + "1", 0);
                    read(c + "points 1" + REST, 1, 0);
                }
            }
        });
        s.test("Terms 2", "blanks (32, 10) may stand between.", () -> {
            good(" 1", "1 ", "\n1\n", " \n 1 \n + \n\n 2  ", "( 1 )", "- 1", "-\n1", "1\nor\n1", "not\n1");
            read("points\n1\n;\nmay\n1\n;\nvotes\n1\n;\ncosts\n1\n;\n", 0, NONE);
            read("  points 1" + REST + "  ", 0, NONE);
            for (char c : new char[] {0, 9, 11, 12, 13, 31, 33, 127, 128, 133, 160, 255}) {
                bad("1" + c, 1);
                bad(c + "1", 0);
                read("points 1" + REST + c, 1, 8 + REST.length());
            }
            bad("1 0", 2);
            bad("fam ily", 0);
        });
    }

    private static void parts() {
        s.test("Terms 2", "TEXT: points E ; may E ; votes E ; costs E ; .", () -> {
            read("points 1;may 1;votes 1;costs 1;", 0, NONE);
            read("may 1;points 1;votes 1;costs 1;", 1, 0);
            read("points 1;votes 1;may 1;costs 1;", 1, 9);
            read("points 1;may 1;costs 1;votes 1;", 1, 15);
            read("points 1;may 1;votes 1;points 1;", 1, 23);
            read("points 1;may 1;votes 1;costs 1", 1, 30);
            read("points 1;may 1;votes 1;", 1, 23);
            read("points 1 may 1;votes 1;costs 1;", 1, 9);
            read("points 1;;may 1;votes 1;costs 1;", 1, 9);
            read("points ;may 1;votes 1;costs 1;", 1, 7);
            read("points 1;may ;votes 1;costs 1;", 1, 13);
            read("points 1;may 1;votes ;costs 1;", 1, 21);
            read("points 1;may 1;votes 1;costs ;", 1, 29);
            read("points 1;may 1;votes 1;costs 1;;", 1, 31);
            read("points 1;may 1;votes 1;costs 1;points 1;", 1, 31);
            read("points 1;may 1;votes 1;costs 1; 1", 1, 32);
            read("points points 1;may 1;votes 1;costs 1;", 1, 7);
        });
        s.test("Terms 2", "E: AND { or AND }.", () -> {
            good("1 or 2", "1 or 2 or 3", "1 and 2 or 3 and 4", "(1 or 2) or 3");
            bad("or 1", 0);
            bad("1 or", 4);
            bad("1 or or 2", 5);
            bad("1 or and 2", 5);
            worth("1 or 0 and 0", 1);
            worth("0 and 0 or 1", 1);
            worth("0 or 0 or 5", 1);
            worth("0 or 0 or 0", 0);
        });
        s.test("Terms 2", "AND: NOT { and NOT }.", () -> {
            good("1 and 2", "1 and 2 and 3", "not 1 and not 2", "1 and not not 2");
            bad("and 1", 0);
            bad("1 and", 5);
            bad("1 and and 2", 6);
            bad("1 and or 2", 6);
            worth("1 and 2 and 0", 0);
            worth("1 and 2 and 3", 1);
            worth("not 0 and 0", 0);
            worth("1 and not 0", 1);
        });
    }

    private static void rules() {
        s.test("Terms 2", "NOT: not NOT, or SUM, perhaps < or = and a SUM.", () -> {
            good("not 1", "not not 1", "not 1 < 2", "1 < 2", "1 = 2", "1 + 2 < 3 * 4", "not not 1 = 2");
            bad("1 < 2 < 3", 6);
            bad("1 = 2 = 3", 6);
            bad("1 < 2 = 3", 6);
            bad("not 1 < 2 < 3", 10);
            bad("1 < not 2", 4);
            bad("1 = not 2", 4);
            bad("1 + not 2", 4);
            bad("1 * not 2", 4);
            bad("- not 2", 2);
            bad("1 not 2", 2);
            bad("< 1", 0);
            bad("1 <", 3);
            bad("1 <= 2", 3);
            bad("1 == 2", 3);
            bad("not", 3);
            worth("not 1 < 0", 1);
            worth("not 2 = 2", 0);
            worth("1 + 1 < 3", 1);
            worth("3 < 1 + 1", 0);
            worth("2 = 1 + 1", 1);
        });
        s.test("Terms 2", "SUM: TERM { + or - TERM }.", () -> {
            good("1 + 2", "1 - 2", "1 + 2 - 3 + 4", "1 - 2 - 3");
            bad("+ 1", 0);
            bad("1 +", 3);
            bad("1 -", 3);
            bad("1 + + 2", 4);
            bad("1 - + 2", 4);
            good("1 - - 2", "1 + - 2", "1--2");
            worth("10 - 3 - 2", 5);
            worth("10 - 3 + 2", 9);
            worth("10 + 3 - 2", 11);
            worth("1--2", 3);
        });
        s.test("Terms 2", "TERM: ONE { * ONE }.", () -> {
            good("1 * 2", "1 * 2 * 3", "1 * - 2", "- 1 * 2", "(1) * (2)");
            bad("* 1", 0);
            bad("1 *", 3);
            bad("1 * * 2", 4);
            bad("1 * + 2", 4);
            worth("2 + 3 * 4", 14);
            worth("2 * 3 + 4", 10);
            worth("2 * 3 * 4", 24);
            worth("10 - 2 * 3", 4);
        });
    }

    private static void rulesOfOne() {
        s.test("Terms 2", "ONE: a NUMBER, a NAME, - ONE, ( E ).", () -> {
            good("1", "waits", "- 1", "- waits", "- - 1", "-(1)", "(1)", "((1))", "(1 or 2)", "(not 1)", "- (not 1)", "(1 < 2)");
            bad("()", 1);
            bad("(1", 2);
            bad("1)", 1);
            bad("(1))", 3);
            bad("(1;)", 2);
            bad("(1 2)", 3);
            bad("1 (2)", 2);
            bad("(1)(2)", 3);
            bad("waits family", 6);
            bad("-", 1);
            bad("(-)", 2);
            worth("- 3 * 2", -6);
            worth("- 3 + 5", 2);
            worth("-(3 + 5)", -8);
            worth("- - 3", 3);
            worth("(1 or 0) + 1", 2);
            worth("(2 < 3) * 7", 7);
        });
        s.test("Terms 2", "NAMES are waits family rooms joined debt stair share members; points, may, votes, costs, or, and, not are KEYS.",
            () -> {
                good("waits", "family", "rooms", "joined", "debt", "stair", "share");
                read("points 1;may 1;votes members;costs 1;", 0, NONE);
                for (String key : new String[] {"points", "may", "votes", "costs", "or", "and"}) {
                    bad(key, 0);
                    bad("1 + " + key, 4);
                    bad("1 * (" + key + ")", 5);
                }
                bad("1 + not", 4);
                for (String key : new String[] {"points", "may", "votes", "costs", "not", "waits", "members"}) {
                    bad("1 " + key, 2);
                }
            });
    }

    private static void worths() {
        s.test("Terms 2", "An E is a long (they wrap):", () -> {
            String least = "65536 * 65536 * 65536 * 32768";
            worth(least, Long.MIN_VALUE);
            worth(least + " - 1", Long.MAX_VALUE);
            worth("- 1 + " + least, Long.MAX_VALUE);
            worth("-(" + least + ")", Long.MIN_VALUE);
            worth("-(" + least + " - 1) - 1", Long.MIN_VALUE);
            worth("65536 * 65536 * 65536 * 65536", 0);
            worth("65536 * 32768", 1L << 31);
            worth("65536 * 65536", 1L << 32);
            worth("999999 * 999999 * 999999 * 999999", 999999L * 999999 * 999999 * 999999);
            worth("0 - 999999 * 999999", -999999L * 999999);
        });
        s.test("Terms 2", "of or, and, not, <, = 1 or 0 (what is not 0 is true).", () -> {
            String least = "(65536 * 65536 * 65536 * 32768)";
            for (String truth : new String[] {"1", "2", "999999", "(0 - 1)", "(65536 * 65536)", least, "(" + least + " - 1)"}) {
                worth(truth + " or 0", 1);
                worth("0 or " + truth, 1);
                worth(truth + " or " + truth, 1);
                worth(truth + " and 7", 1);
                worth("7 and " + truth, 1);
                worth(truth + " and 0", 0);
                worth("0 and " + truth, 0);
                worth("not " + truth, 0);
                worth("not not " + truth, 1);
                worth(truth + " = " + truth, 1);
                worth(truth + " < " + truth, 0);
            }
            worth("0 or 0", 0);
            worth("0 and 0", 0);
            worth("not 0", 1);
            worth("not not 0", 0);
            worth("1 < 2", 1);
            worth("2 < 1", 0);
            worth("1 = 2", 0);
            worth("0 - 1 < 0", 1);
            worth("0 < 0 - 1", 0);
            worth(least + " < " + least + " - 1", 1);
            worth(least + " - 1 < " + least, 0);
            worth("65536 * 65536 = 0", 0);
        });
    }

    private static void faults() {
        s.test("Terms 2", "FAULTS: kind 1: the place of the first byte of the first TOKEN that can't stand there", () -> {
            read("waits", 1, 0);
            read("   waits", 1, 3);
            read("points 1;  points 1;", 1, 11);
            read("points 1; may 1; votes 1; costs 12 345678 ;", 1, 35);
            // The first of several.
            read("points ) ) ?;", 1, 7);
            bad("1 + + * ?", 4);
            bad("1 + ) zzzz 1234567", 4);
            bad("999999 999999", 7);
            bad("waits  family", 7);
        });
        s.test("Terms 2", "(the text's size, if it ends too early),", () -> {
            String text = "points - ( waits ) ; may not 1 < 2 ; votes 1 or 2 ; costs 1 * ( 3 + 4 ) ;";
            read(text, 0, NONE);
            // Cut behind each token, and behind the blank behind it.
            for (int at = 0; at < text.length(); at++) {
                if (text.charAt(at) == ' ') {
                    read(text.substring(0, at), 1, at);
                    read(text.substring(0, at + 1), 1, at + 1);
                }
            }
            read("", 1, 0);
            read(" ", 1, 1);
            read("\n\n\n", 1, 3);
            HousingSociety x = new HousingSociety();
            Checks.propose(x, padded("points ", 400));
            s.due("the largest size", x.fault(1), 400);
        });
    }

    private static void faultsOfTokens() {
        s.test("Terms 2", "also of a byte that begins none,", () -> {
            for (char c : new char[] {0, 9, '!', '#', ',', '.', '/', ':', '>', '?', '@', 'A', 'Z', '[', '`', '{', '~', 127, 128, 200, 255}) {
                bad("1 + " + c, 4);
                bad("1 + waits " + c, 10);
                read("points 1" + REST + " " + c, 1, 9 + REST.length());
                bad("(" + c + "1)", 1);
                bad("-" + c + "1", 1);
                bad("not" + c + " 1", 3);
                read("" + c, 1, 0);
            }
        });
        s.test("Terms 2", "of a WORD that is neither KEY nor NAME,", () -> {
            for (String word : new String[] {"a", "z", "wait", "waitss", "famil", "familyy", "room", "member", "memberss", "point", "pointss",
                "ma", "mayy", "o", "orr", "an", "andd", "no", "nott", "aits", "amily", "debts", "stairs", "shares", "join", "cost", "vote"}) {
                bad("1 + " + word, 4);
                bad("1 " + word, 2);
                bad("(" + word + " 1)", 1);
                bad("- " + word + " 1", 2);
                bad("not " + word + " 1", 4);
                read(word + " 1" + REST, 1, 0);
                read("points 1" + REST + word, 1, 8 + REST.length());
            }
        });
        s.test("Terms 2", "of a WORD or NUMBER that is too long,", () -> {
            bad("1 + abcdefghi", 4);
            bad("1 + memberswaits", 4);
            bad("1 + 1234567", 4);
            bad("1 + 0000000 + 1", 4);
            for (String tooLong : new String[] {"abcdefghi", "waitswaits", "1234567"}) {
                bad("(" + tooLong + " 1)", 1);
                bad("- " + tooLong + " 1", 2);
                bad("not " + tooLong + " 1", 4);
                read("points 1;" + tooLong + " may 1;votes 1;costs 1;", 1, 9);
            }
            bad("1 + 12345678901234567890", 4);
            // Beyond int and long, the digits may wrap to any number.
            bad("4294967297", 0);
            bad("18446744073709551617", 0);
            good("1 + 123456");
        });
    }

    private static void faultsOfDepth() {
        s.test("Terms 2", "of a ( , a not, a - ahead of a ONE while 8 of these are open", () -> {
            good(OPEN8 + "1" + CLOSE8, "--------1", NOT8 + "1", "not (-(not (-(1))))", "not not not not (-(-1))");
            bad(OPEN8 + "(1)" + CLOSE8, 8);
            bad(OPEN8 + "-1" + CLOSE8, 8);
            bad(OPEN8 + "not 1" + CLOSE8, 8);
            bad("--------(1)", 8);
            bad("---------1", 8);
            bad(NOT8 + "(1)", 32);
            bad(NOT8 + "-1", 32);
            bad(NOT8 + "not 1", 32);
            bad("not not not not (-(--1))", 20);
            bad("not not not not (-(-(1)))", 20);
            bad("not (-(not (-(-1))))", 14);
            bad("((((not not (-(1))))))", 14);
            // A - between two TERMS is not one of these.
            good(OPEN8 + "1 - 1 - 1" + CLOSE8, NOT8 + "1 - 1", "--------1 - 1");
            for (String part : new String[] {"points ", "points 1;may ", "points 1;may 1;votes ", "points 1;may 1;votes 1;costs "}) {
                read(part + OPEN8 + "(", 1, part.length() + 8);
                read(part + "---------", 1, part.length() + 8);
                read(part + NOT8 + "not", 1, part.length() + 32);
            }
        });
        s.test("Terms 2", "(a ( till its ) , not and - till what they belong to ends).", () -> {
            good(OPEN8 + "1" + CLOSE8 + " + " + OPEN8 + "1" + CLOSE8);
            good("--------1 * --------1 + --------1 < --------1 and --------1");
            good(NOT8 + "1 and " + NOT8 + "1 or " + NOT8 + "1");
            good("-" + OPEN8.substring(1) + "1" + CLOSE8.substring(1) + " * " + OPEN8 + "1" + CLOSE8);
            good("-1 * " + OPEN8 + "1" + CLOSE8, "-1 + " + OPEN8 + "1" + CLOSE8, "-1 < " + OPEN8 + "1" + CLOSE8);
            good("not 1 and " + OPEN8 + "1" + CLOSE8, "not 1 or " + OPEN8 + "1" + CLOSE8);
            // What a not belongs to ends behind its comparison, and not ahead of that.
            bad("not 1 + " + OPEN8 + "1" + CLOSE8, 15);
            bad("not 1 * " + OPEN8 + "1" + CLOSE8, 15);
            bad("not 1 < " + OPEN8 + "1" + CLOSE8, 15);
            bad("(1 + " + OPEN8 + "1" + CLOSE8 + ")", 12);
            good("(1) + " + OPEN8 + "1" + CLOSE8, "(not -1) + " + OPEN8 + "1" + CLOSE8);
            good("((((((((1) + (1)) + (1)))))))");
            bad("((((((((1) + ((1))) + (1)))))))", 14);
            read("points " + OPEN8 + "1" + CLOSE8 + ";may " + OPEN8 + "1" + CLOSE8 + ";votes " + NOT8 + "1;costs --------1;", 0, NONE);
        });
    }

    private static void names() {
        s.test("Terms 2", "If there is none, kind 2: the first NAME that its E may not have:", () -> {
            read("points members;may 1;votes 1;costs 1;", 2, 7);
            read("points members;may 1;votes 1;costs 1;?", 1, 37);
            read("points members;may 1;votes 1;costs 1", 1, 36);
            read("points members", 1, 14);
            read("points 1 + members * members;may members;votes waits;costs waits;", 2, 11);
            read("points 1;may 1;votes waits;costs waits;", 2, 21);
            read("points 1;may 1;votes 1;costs waits + debt;", 2, 29);
        });
        s.test("Terms 2", "points and may: all but members;", () -> {
            allowed("points ", ";may 1;votes 1;costs 1;", "waits family rooms joined debt stair share");
            allowed("points 1;may ", ";votes 1;costs 1;", "waits family rooms joined debt stair share");
        });
        s.test("Terms 2", "votes: members alone;", () -> allowed("points 1;may 1;votes ", ";costs 1;", "members"));
        s.test("Terms 2", "costs: family rooms stair share.",
            () -> allowed("points 1;may 1;votes 1;costs ", ";", "family rooms stair share"));
    }

    private static void allowed(String ahead, String behind, String may) {
        for (String name : "waits family rooms joined debt stair share members".split(" ")) {
            boolean is = (" " + may + " ").contains(" " + name + " ");
            for (String e : new String[] {"", "- ", "not ", "1 + ", "1 or (2 * "}) {
                String close = e.contains("(") ? ")" : "";
                read(ahead + e + name + close + behind, is ? 0 : 2, is ? NONE : ahead.length() + e.length());
            }
        }
    }

    private static void namesOfToday() {
        s.test("Terms 2", "Of a MEMBER that WAITS and a HOME, today: waits is TODAY less the day since which it WAITS (0: it does not wait),",
            () -> {
                HousingSociety x = Checks.society(1, 2);
                x.day(9);
                s.due("it does not wait", x.points(0, 0, 0), 0);
                x.wait(0);
                s.due("since today", x.points(0, 0, 0), 0);
                x.day(1);
                s.due("since a day", x.points(0, 0, 0), 1);
                x.day(10000);
                s.due("since many", x.points(0, 0, 0), 10001);
                s.due("another that does not wait", x.points(1, 0, 0), 0);
                x.offer(0);
                x.take(0, true);
                s.due("it took a HOME", x.points(0, 0, 0), 0);
                x.wait(0);
                x.day(2);
                x.leave(0);
                s.due("it went", x.points(0, 0, 0), 0);
            });
        s.test("Terms 2", "joined TODAY less the day on which it came, debt its DEBT, family, and of the HOME rooms stair share.", () -> {
            worth("joined", 12);
            worth("debt", -6);
            worth("family", 4);
            worth("rooms", 5);
            worth("stair", 3);
            worth("share", 70);
            worth("waits", 2);
            HousingSociety x = Checks.society(1, 1);
            x.day(3);
            x.member(9);
            Checks.enact(x, "points joined;may debt;votes 1;costs 1;", 1);
            s.due("came today", x.points(1, 0, 0), 0);
            s.due("came on day 0", x.points(0, 0, 0), 3);
            x.right(0, 0, 1, 0);
            x.cost(7);
            s.due("a DEBT above 0", x.points(1, 0, 1), 7);
        });
        s.test("Terms 2", "members: how many MEMBERS are HERE.", () -> {
            for (int here = 1; here <= 4; here++) {
                HousingSociety x = Checks.society(0, 5);
                Checks.enact(x, "points 1;may 1;votes members;costs 1;", 1);
                for (int member = here; member < 5; member++) {
                    x.leave(member);
                }
                int text = Checks.propose(x, Probe.FREE);
                for (int member = 0; member < here; member++) {
                    s.due("votes of " + member + " among " + here, x.carry(text, 0), 0);
                    x.vote(member, text, true);
                }
                s.due("votes of all that are HERE", x.carry(text, 0), 1);
            }
            HousingSociety x = Checks.society(0, 24);
            Checks.enact(x, "points 1;may 1;votes members = 24;costs 1;", 1);
            int text = Checks.propose(x, Probe.FREE);
            s.due("all", x.carry(text, 0), 0);
            x.leave(23);
            s.due("all but one", x.carry(text, 0), 1);
        });
        s.test("Terms 2", "In costs: family is that of the MEMBER of the HOME's RIGHT in force (0: none).", () -> {
            HousingSociety x = Checks.society(4, 5);
            Checks.enact(x, "points 1;may 1;votes 1;costs family;", 1);
            x.right(0, 0, 1, 0);
            x.right(1, 1, 2, 9);
            x.right(0, 2, 4, 0);
            x.join(2, 0);
            x.right(2, 3, 3, 9);
            x.cost(100);
            s.row("2, 3, 5 (the first of a JOINT one), none", x, (y, home) -> y.parted(0, home), 20, 30, 50, 0);
            x.family(1, 7);
            x.leave(4);
            x.cost(11);
            s.row("7, 3, 1 (the LEFT one), none", x, (y, home) -> y.parted(1, home), 7, 3, 1, 0);
        });
    }

    private static void votes() {
        s.test("Terms 2", "TEXT 0, at first, from day 0 on, is: points waits ; may 1 ; votes 1 ; costs 1 ;", () -> {
            String text = "points waits ; may 1 ; votes 1 ; costs 1 ;";
            HousingSociety x = new HousingSociety();
            s.row("told", x, (y, what) -> y.textTold(0, what), 1, 0, 0, 0, 0, NONE, text.length());
            x.put(0, 2, 0);
            for (int i = 0; i < text.length(); i++) {
                s.due("byte " + i, x.forge(0, 1, i), text.charAt(i));
            }
            s.due("behind the last byte", x.forge(0, 1, text.length()), -1);
            s.due("IN FORCE on day 0", x.text(0), 0);
            s.due("IN FORCE on the last day", x.text(2000000), 0);
            s.due("it can't be VOID", x.tear(0), BAD);
        });
        s.test("Terms 2", "A TEXT that is PROPOSED can get VOTES of MEMBERS that are HERE, each once;", () -> {
            HousingSociety x = Checks.society(0, 3);
            Checks.propose(x, Probe.FREE);
            s.due("one that is not PROPOSED", x.vote(0, 2, true), BAD);
            s.due("once", x.vote(0, 1, false), 0);
            s.due("once more, and otherwise", x.vote(0, 1, true), STATE);
            s.due("once", x.vote(1, 1, true), 1);
            s.due("once more", x.vote(1, 1, true), STATE);
            x.leave(2);
            s.due("who is not HERE", x.vote(2, 1, true), STATE);
            Checks.propose(x, Probe.FREE);
            s.due("for another TEXT", x.vote(0, 2, true), 1);
        });
        s.test("Terms 2", "it is CARRIED if the yes ones are as many as votes tells by the TEXT IN FORCE today, or more;", () -> {
            String[] votes = {"0", "-1", "1", "2", "3", "4", "999999 * 999999", "65536 * 65536 * 65536 * 32768", "65536 * 65536",
                "65536 * 65536 * 65536 * 65536 + 3"};
            long[] needed = {0, -1, 1, 2, 3, 4, 999998000001L, Long.MIN_VALUE, 1L << 32, 3};
            for (int i = 0; i < votes.length; i++) {
                for (int yes = 0; yes <= 4; yes++) {
                    HousingSociety x = Checks.society(0, 5);
                    Checks.enact(x, "points 1;may 1;votes " + votes[i] + ";costs 1;", 1);
                    int text = Checks.propose(x, Probe.FREE);
                    for (int member = 0; member < 5; member++) {
                        x.vote(member, text, member < yes);
                    }
                    s.due(yes + " yes, needed " + votes[i], x.carry(text, 0), yes >= needed[i] ? 1 : 0);
                }
            }
            HousingSociety x = Probe.busy();
            x.vote(9, 1, true);
            s.due("today TEXT 2 needs 2", x.carry(1, 60), 1);
            HousingSociety y = Probe.busy();
            y.vote(9, 1, true);
            y.day(45);
            s.due("on day 50 TEXT 3 needs all", y.carry(1, 60), 0);
        });
    }

    private static void inForce() {
        s.test("Terms 2", "then it is in force from a told day on.", () -> {
            HousingSociety x = Checks.society(1, 1);
            Checks.propose(x, "points 7;may 1;votes 1;costs 1;");
            x.vote(0, 1, true);
            x.carry(1, 10);
            s.due("on the day ahead", x.text(9), 0);
            s.due("on the day", x.text(10), 1);
            s.due("on the last day", x.text(2000000), 1);
            x.day(9);
            s.due("POINTS on the day ahead", x.points(0, 0, 0), 0);
            x.day(1);
            s.due("POINTS on the day", x.points(0, 0, 0), 7);
        });
        s.test("Terms 2", "IN FORCE on a day is, of the TEXTS that are CARRIED and not VOID, with a day at most that, the one that was CARRIED"
            + " last.", () -> {
                HousingSociety x = Checks.society(0, 1);
                for (int text = 1; text <= 4; text++) {
                    Checks.propose(x, Probe.FREE);
                    x.vote(0, text, true);
                }
                x.carry(4, 20);
                x.carry(1, 10);
                x.carry(3, 15);
                int[][] days = {{9, 0}, {10, 1}, {14, 1}, {15, 3}, {19, 3}, {20, 3}, {21, 3}};
                for (int[] d : days) {
                    s.due("on day " + d[0], x.text(d[0]), d[1]);
                }
                x.tear(3);
                s.due("without a VOID one", x.text(20), 1);
                x.tear(1);
                s.due("without two, on the day ahead", x.text(19), 0);
                s.due("without two", x.text(20), 4);
                s.due("one that is PROPOSED alone", x.textTold(2, 0), 0);
                x.carry(2, 20);
                s.due("of one day, the one that was CARRIED last", x.text(20), 2);
            });
        s.test("Terms 2", "It HANGS on the TEXT that was IN FORCE when it was CARRIED.", () -> {
            HousingSociety x = Checks.society(0, 1);
            for (int text = 1; text <= 5; text++) {
                Checks.propose(x, Probe.FREE);
                x.vote(0, text, true);
            }
            s.due("ahead of it", x.textTold(5, 5), NONE);
            x.carry(5, 3);
            x.carry(1, 9);
            s.due("on TEXT 0, as 5 is not yet IN FORCE", x.textTold(1, 5), 0);
            x.day(3);
            x.carry(2, 3);
            s.due("on 5, which is IN FORCE today", x.textTold(2, 5), 5);
            x.carry(3, 3);
            s.due("on 2, which was CARRIED last", x.textTold(3, 5), 2);
            x.day(7);
            s.due("it stays", x.textTold(3, 5), 2);
            x.tear(2);
            x.carry(4, 10);
            s.due("on 1, with 2 and 3 VOID", x.textTold(4, 5), 1);
        });
    }

    private static void voids() {
        s.test("Terms 2", "A TEXT that is VOID makes all that HANG on it VOID.", () -> {
            // Each HANGS on the one that was CARRIED ahead of it: their numbers go up, down, and to and fro.
            int[][] rows = {{1, 2, 3, 4, 5, 6, 7, 8, 9, 10, 11}, {11, 10, 9, 8, 7, 6, 5, 4, 3, 2, 1}, {6, 1, 11, 2, 10, 3, 9, 4, 8, 5, 7}};
            for (int[] row : rows) {
                for (int torn = 0; torn < row.length; torn++) {
                    HousingSociety x = Checks.society(0, 1);
                    for (int text = 1; text <= 11; text++) {
                        Checks.propose(x, Probe.FREE);
                    }
                    x.vote(0, row[0], true);
                    for (int text : row) {
                        x.carry(text, 0);
                    }
                    s.due("how many become VOID", x.tear(row[torn]), row.length - torn);
                    for (int i = 0; i < row.length; i++) {
                        s.due("VOID", x.textTold(row[i], 1), i >= torn ? 1 : 0);
                    }
                    s.due("TEXT 0", x.textTold(0, 1), 0);
                    s.due("IN FORCE", x.text(0), torn == 0 ? 0 : row[torn - 1]);
                }
            }
        });
    }
}
