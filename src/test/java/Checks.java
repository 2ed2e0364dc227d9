import java.io.IOException;
import java.nio.file.Files;
import java.nio.file.Path;
import java.util.function.LongSupplier;
import java.util.stream.Stream;

/** What the tests share: counting wrong answers, feeding texts, and telling all that an object tells. */
final class Checks {
    private int done;
    private int wrong;

    void due(String call, long got, long want) {
        done++;
        if (got != want) {
            wrong++;
            System.out.println(call + " answered " + got + ", due is " + want);
        }
    }

    void same(String call, String got, String want) {
        done++;
        if (!got.equals(want)) {
            wrong++;
            System.out.println(call + " answered\n  " + got + "\ndue is\n  " + want);
        }
    }

    /** A call that is refused: its answer is due, and nothing that the object tells is changed by it. */
    void refused(String call, HousingSociety x, LongSupplier answer, long want) {
        String before = told(x);
        due(call, answer.getAsLong(), want);
        same("what is told behind " + call, told(x), before);
    }

    void finish(String name) {
        System.out.println(name + ": " + done + " answers, " + wrong + " of them wrong");
        if (wrong != 0 || done == 0) {
            System.exit(1);
        }
    }

    /** A directory that a test made goes, with all that is in it. */
    static void remove(Path directory) throws IOException {
        try (Stream<Path> all = Files.walk(directory)) {
            for (Path path : all.sorted((one, other) -> other.compareTo(one)).toList()) {
                Files.delete(path);
            }
        }
    }

    boolean isClean() {
        return wrong == 0;
    }

    int done() {
        return done;
    }

    static void feed(HousingSociety x, String text) {
        for (int at = 0; at < text.length(); at += 8) {
            int n = Math.min(8, text.length() - at);
            x.feed(n, packed(text, at, n));
        }
    }

    static long packed(String text, int at, int n) {
        long bytes = 0;
        for (int i = 0; i < n; i++) {
            bytes |= (text.charAt(at + i) & 255L) << (8 * i);
        }
        return bytes;
    }

    static int propose(HousingSociety x, String text) {
        feed(x, text);
        return x.propose();
    }

    /** A text is proposed and carried from today on, by so many members from 0 on as are needed. */
    static int enact(HousingSociety x, String text, int voters) {
        int number = propose(x, text);
        for (int i = 0; i < voters; i++) {
            x.vote(i, number, true);
        }
        x.carry(number, x.count(8));
        return number;
    }

    static HousingSociety society(int homes, int members) {
        HousingSociety x = new HousingSociety();
        for (int i = 0; i < homes; i++) {
            x.home(i % 4, 1 + i % 6, 1 + i);
        }
        for (int i = 0; i < members; i++) {
            x.member(1 + i % 9);
        }
        return x;
    }

    /** All that can be asked without changing anything (DEBTS by paying nothing). */
    static String told(HousingSociety x) {
        StringBuilder all = new StringBuilder();
        for (int what = -1; what <= 12; what++) {
            all.append(" c").append(x.count(what));
        }
        for (int right = 0; right < x.count(3); right++) {
            all.append("\n  right ").append(right);
            for (int what = 0; what <= 6; what++) {
                all.append(' ').append(x.rightTold(right, what));
            }
        }
        tellHomes(x, all);
        tellMembers(x, all);
        tellTexts(x, all);
        all.append("\n  fault ").append(x.fault(0)).append(' ').append(x.fault(1));
        all.append(" status ").append(x.status()).append(" best ").append(x.best());
        all.append(" due ").append(x.due());
        for (int y = 0; y < 40; y += 13) {
            all.append(' ').append(x.fund(y, 0)).append(' ').append(x.fund(y, 777));
        }
        return all.toString();
    }

    private static void tellHomes(HousingSociety x, StringBuilder all) {
        int today = x.count(8);
        for (int home = 0; home < x.count(0); home++) {
            all.append("\n  home ").append(home);
            for (int what = 0; what <= 6; what++) {
                all.append(' ').append(x.homeTold(home, what));
            }
            all.append(" force ").append(x.inForce(0, home, today / 2)).append(' ').append(x.inForce(0, home, today));
            all.append(" order");
            for (int i = 0; i < x.count(9); i++) {
                all.append(' ').append(x.order(home, i));
            }
            all.append(" parted");
            for (int cost = 0; cost < x.count(6); cost++) {
                all.append(' ').append(x.parted(cost, home));
            }
        }
    }

    private static void tellMembers(HousingSociety x, StringBuilder all) {
        int today = x.count(8);
        for (int member = 0; member < x.count(1); member++) {
            all.append("\n  member ").append(member);
            for (int what = 0; what <= 6; what++) {
                all.append(' ').append(x.memberTold(member, what));
            }
            all.append(" moves ").append(x.moves(member)).append(" debt ").append(x.pay(member, 0));
            all.append(" force ").append(x.inForce(1, member, today / 2)).append(' ').append(x.inForce(1, member, today));
            for (int home = 0; home < x.count(0); home++) {
                all.append(' ').append(x.points(member, home, 0)).append('/').append(x.points(member, home, 1));
            }
        }
    }

    private static void tellTexts(HousingSociety x, StringBuilder all) {
        int today = x.count(8);
        for (int text = 0; text < x.count(5); text++) {
            all.append("\n  text ").append(text);
            for (int what = 0; what <= 6; what++) {
                all.append(' ').append(x.textTold(text, what));
            }
        }
        all.append(" in force ").append(x.text(0)).append(' ').append(x.text(today)).append(' ');
        all.append(x.text(today + 5)).append(' ').append(x.text(2000000));
    }
}
