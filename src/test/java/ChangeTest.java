import java.util.ArrayList;
import java.util.List;
import java.util.Random;

/** Changes among many: best(), moves() and change() against the trying of all changes. */
public final class ChangeTest {
    private static final int RUNS = 10000;
    private static final Checks checks = new Checks();

    public static void main(String[] args) {
        for (int seed = 0; seed < RUNS && checks.isClean(); seed++) {
            compare(seed);
        }
        longRing();
        longChain();
        checks.finish("ChangeTest");
    }

    private static void compare(int seed) {
        Random random = new Random(seed);
        int homes = 2 + random.nextInt(11);
        HousingSociety x = Checks.society(homes, 24);
        Changes all = new Changes(homes);
        boolean[] isFree = new boolean[homes];
        int[] homeOf = new int[24];
        int inEmpty = random.nextInt(4);
        for (int home = 0; home < homes; home++) {
            int member = freeMember(x, random);
            if (random.nextInt(5) < inEmpty) {
                isFree[home] = random.nextInt(4) != 0;
                if (!isFree[home]) {
                    x.offer(home);
                }
            } else {
                settle(x, home, member, random);
            }
            if (isFree[home]) {
                all.free.add(home);
            }
        }
        int density = 1 + random.nextInt(4);
        for (int member = 0; member < 24; member++) {
            List<Integer> wished = new ArrayList<>();
            for (int home = 0; home < homes; home++) {
                if (random.nextInt(homes) < density) {
                    x.wish(member, home, true);
                    wished.add(home);
                }
            }
            homeOf[member] = x.memberTold(member, 4);
            int right = x.inForce(1, member, 0);
            if (right >= 0 && x.rightTold(right, 0) != 1 && x.rightTold(right, 2) == member) {
                all.add(member, homeOf[member], wished);
            }
        }
        all.find();
        check("run " + seed + " ", x, all, homeOf);
    }

    private static void settle(HousingSociety x, int home, int member, Random random) {
        if (random.nextInt(8) == 0) {
            x.right(1, home, member, 5);
            return;
        }
        int right = x.right(0, home, member, 0);
        if (random.nextInt(3) == 0) {
            x.join(right, freeMember(x, random));
        }
    }

    private static int freeMember(HousingSociety x, Random random) {
        int member = random.nextInt(24);
        for (int i = 0; i < 24 && x.memberTold(member, 4) >= 0; i++) {
            member = (member + 1) % 24;
        }
        return member;
    }

    private static void check(String run, HousingSociety x, Changes all, int[] homeOf) {
        checks.due(run + "best", x.best(), all.best.size());
        for (int member = 0; member < 24; member++) {
            checks.due(run + "moves(" + member + ")", x.moves(member), all.best.getOrDefault(member, -1));
        }
        int rights = x.count(3);
        checks.due(run + "change", x.change(), all.best.size());
        checks.due(run + "rights", x.count(3), rights + all.best.size());
        int number = rights;
        for (int member : all.best.keySet()) {
            checks.due(run + "by members", x.rightTold(number, 2), member);
            checks.due(run + "whither", x.rightTold(number, 1), all.best.get(member));
            number++;
        }
        for (int member = 0; member < 24; member++) {
            int right = x.inForce(1, member, 0);
            boolean isSecond = right >= 0 && x.rightTold(right, 3) == member;
            int mover = isSecond ? x.rightTold(right, 2) : member;
            checks.due(run + "holds " + member, x.memberTold(member, 4), all.best.getOrDefault(mover, homeOf[member]));
        }
    }

    private static void longRing() {
        HousingSociety x = Checks.society(12, 24);
        for (int i = 0; i < 12; i++) {
            x.right(0, i, 23 - i, 0);
            x.wish(23 - i, (i + 1) % 12, true);
        }
        checks.due("a ring of 12", x.best(), 12);
        checks.due("a ring of 12", x.moves(23), 1);
        x.wish(12, 0, false);
        checks.due("a broken ring", x.best(), 0);
    }

    private static void longChain() {
        HousingSociety x = Checks.society(12, 24);
        for (int i = 0; i < 11; i++) {
            x.right(0, i, i, 0);
            for (int home = 0; home < 12; home++) {
                x.wish(i, home, true);
            }
        }
        checks.due("all wish all", x.best(), 11);
        int[] goals = {1, 0, 3, 2, 5, 4, 7, 6, 9, 8, 11};
        for (int i = 0; i < 11; i++) {
            checks.due("all wish all, " + i, x.moves(i), goals[i]);
        }
    }
}
