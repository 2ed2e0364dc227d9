import java.util.ArrayList;
import java.util.List;
import java.util.TreeMap;
import java.util.TreeSet;

/** THE CHANGE, by trying all changes in the order in which the document prefers them. */
final class Changes {
    final TreeSet<Integer> free = new TreeSet<>();
    /** By members that move, whither. */
    TreeMap<Integer, Integer> best = new TreeMap<>();

    private final int homes;
    private final List<Integer> members = new ArrayList<>();
    private final List<Integer> own = new ArrayList<>();
    private final List<List<Integer>> wishes = new ArrayList<>();
    private TreeMap<Integer, Integer> tried = new TreeMap<>();

    Changes(int homes) {
        this.homes = homes;
    }

    void add(int member, int home, List<Integer> wished) {
        members.add(member);
        own.add(home);
        wishes.add(wished);
    }

    void find() {
        attempt(0);
    }

    private void attempt(int i) {
        // What can't become more than the best is left out: the first of as many is the one that is preferred.
        if (tried.size() + members.size() - i <= best.size()) {
            return;
        }
        if (i == members.size()) {
            if (isChange()) {
                best = new TreeMap<>(tried);
            }
            return;
        }
        for (int home = 0; home < homes; home++) {
            boolean isOther = home != own.get(i) && wishes.get(i).contains(home);
            boolean canBe = free.contains(home) || own.contains(home);
            if (isOther && canBe && !tried.containsValue(home)) {
                tried.put(members.get(i), home);
                attempt(i + 1);
                tried.remove(members.get(i));
            }
        }
        attempt(i + 1);
    }

    private boolean isChange() {
        for (int goal : tried.values()) {
            int holder = own.indexOf(goal);
            if (holder >= 0 ? !tried.containsKey(members.get(holder)) : !free.contains(goal)) {
                return false;
            }
        }
        return true;
    }
}
