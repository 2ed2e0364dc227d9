import java.lang.reflect.Method;
import java.util.ArrayList;
import java.util.Comparator;
import java.util.List;
import java.util.Random;

/** Runs of 512 calls by chance, each answered by the class as by the model. */
public final class ModelTest {
    private static final int RUNS = 2000, CALLS = 480;
    // What is called most, so that some runs have many changes, and some no room for rights any more.
    private static final List<List<String>> FAVOURITES = List.of(List.of("right", "wish", "wait", "join"),
        List.of("right", "right", "right", "right", "wait", "offer", "take", "join"),
        List.of("right", "right", "wish", "wish", "wish", "wish", "member", "best", "moves", "change"));
    private static final List<String> RARE = List.of("leave", "feed", "propose", "end", "tear");
    private static final Checks checks = new Checks();

    private final Random random;
    private final Texts texts;
    private final HousingSociety x = new HousingSociety();
    private final Model model = new Model();
    private final int mostHomes;
    private final int dayStep;
    private final List<String> favourites;
    private final StringBuilder run = new StringBuilder();

    private ModelTest(long seed) {
        random = new Random(seed);
        texts = new Texts(random);
        mostHomes = 1 + random.nextInt(seed % 10 == 0 ? 12 : 7);
        dayStep = seed % 4 == 0 ? 10001 : 6;
        favourites = FAVOURITES.get((int) (seed % 3));
    }

    public static void main(String[] args) throws Exception {
        List<Method> methods = new ArrayList<>(List.of(HousingSociety.class.getDeclaredMethods()));
        methods.removeIf(m -> !java.lang.reflect.Modifier.isPublic(m.getModifiers()));
        methods.sort(Comparator.comparing(Method::getName));
        for (int seed = 0; seed < RUNS && checks.isClean(); seed++) {
            ModelTest test = new ModelTest(seed);
            test.found(methods);
            for (int i = 0; i < CALLS && checks.isClean(); i++) {
                test.call(methods);
            }
            if (!checks.isClean()) {
                System.out.println("in run " + seed + ":" + test.run);
            }
        }
        checks.finish("ModelTest");
    }

    /** Some runs begin with homes and members, so that more of their calls meet some. */
    private void found(List<Method> methods) throws Exception {
        int members = random.nextInt(16);
        for (int i = 0; i < members; i++) {
            compare(named(methods, "member"));
            compare(named(methods, "home"));
        }
    }

    private void call(List<Method> methods) throws Exception {
        int chance = random.nextInt(40);
        if (chance == 0) {
            feedText();
            compare(named(methods, "propose"));
        } else if (chance == 1) {
            carryText();
        } else if (chance < 18) {
            compare(named(methods, favourites.get(random.nextInt(favourites.size()))));
        } else {
            Method m = methods.get(random.nextInt(methods.size()));
            if (!RARE.contains(m.getName()) || random.nextInt(4) == 0) {
                compare(m);
            }
        }
    }

    private static Method named(List<Method> methods, String name) {
        return methods.stream().filter(m -> m.getName().equals(name)).findFirst().orElseThrow();
    }

    private void feedText() {
        int chance = random.nextInt(6);
        String text = chance < 2 ? texts.spoilt() : chance == 2 ? texts.strange() : texts.any();
        for (int at = 0; at < text.length(); at += 8) {
            int n = Math.min(8, text.length() - at);
            long bytes = Checks.packed(text, at, n) | (n == 8 ? 0 : random.nextLong() << 8 * n);
            run.append("\n  feed ").append(n).append(' ').append(bytes);
            checks.due("feed", x.feed(n, bytes), model.feed(n, bytes));
        }
    }

    private void carryText() {
        int text = random.nextInt(1 + model.texts.size());
        for (int i = 0; i < model.members.size(); i++) {
            boolean yes = random.nextInt(4) != 0;
            checks.due("vote", x.vote(i, text, yes), model.vote(i, text, yes));
        }
        int from = model.today + (random.nextBoolean() ? 0 : random.nextInt(2 * dayStep));
        run.append("\n  all vote, and carry ").append(text).append(' ').append(from);
        checks.due("carry", x.carry(text, from), model.carry(text, from));
    }

    private void compare(Method m) throws Exception {
        String name = m.getName();
        if (name.equals("due")) {
            checkDue();
            return;
        }
        if (name.equals("home") && model.homes.size() >= mostHomes && random.nextInt(20) != 0) {
            return;
        }
        Class<?>[] types = m.getParameterTypes();
        Object[] values = new Object[types.length];
        StringBuilder told = new StringBuilder(name).append('(');
        for (int i = 0; i < types.length; i++) {
            values[i] = types[i] == int.class ? (Object) value(name, i, values)
                : types[i] == long.class ? (Object) random.nextLong() : (Object) random.nextBoolean();
            told.append(i == 0 ? "" : ", ").append(values[i]);
        }
        run.append("\n  ").append(told.append(')'));
        Method other = Model.class.getDeclaredMethod(name, types);
        Number got = (Number) m.invoke(x, values);
        Number want = (Number) other.invoke(model, values);
        checks.due(told.toString(), got.longValue(), want.longValue());
    }

    private void checkDue() {
        int least = x.due();
        long lowest = 0;
        long lowestBelow = 0;
        for (int y = 0; y < 40; y++) {
            lowest = Math.min(lowest, model.fund(y, least));
            lowestBelow = least == 0 ? -1 : Math.min(lowestBelow, model.fund(y, least - 1));
        }
        run.append("\n  due() ").append(least);
        checks.due("the lowest of the fund with due()", lowest, 0);
        checks.due("whether it is below 0 with less", lowestBelow < 0 ? 1 : 0, 1);
    }

    private int near(int below) {
        return random.nextInt(30) == 0 ? wild() : random.nextInt(Math.max(1, below));
    }

    private int kind() {
        boolean isCrowded = !favourites.contains("wish");
        int chance = random.nextInt(5);
        return chance < (isCrowded ? 1 : 3) ? 0 : isCrowded || chance == 3 ? 2 : 1;
    }

    private int wild() {
        int[] some = {-1, -2, Integer.MIN_VALUE, Integer.MAX_VALUE, 6, 12, 24, 60, 400, 1000000, 1000001, 2000000, 2000001};
        return some[random.nextInt(some.length)];
    }

    private int value(String name, int i, Object[] ahead) {
        if (random.nextInt(60) == 0) {
            return wild();
        }
        int homes = model.homes.size();
        int members = model.members.size();
        int rights = model.rights.size();
        int coins = random.nextBoolean() ? random.nextInt(20) : random.nextInt(1000001);
        int days = 1 + random.nextInt(dayStep);
        switch (name) {
            case "day": return random.nextInt(dayStep);
            case "home": return i == 0 ? random.nextInt(4) : 1 + random.nextInt(i == 1 ? 6 : 100);
            case "member": return 1 + random.nextInt(9);
            case "family": return i == 0 ? near(members) : 1 + random.nextInt(9);
            case "right":
                return i == 0 ? kind() : i == 1 ? near(homes) : i == 2 ? near(members)
                    : (int) ahead[0] == 0 ? 0 : days;
            case "join": return i == 0 ? near(rights) : near(members);
            case "end": return near(rights);
            case "rightTold": return i == 0 ? near(rights) : random.nextInt(8);
            case "inForce":
                return i == 0 ? random.nextInt(2) : i == 1 ? near((int) ahead[0] == 0 ? homes : members)
                    : random.nextInt(model.today + dayStep);
            case "homeTold": return i == 0 ? near(homes) : random.nextInt(8);
            case "memberTold": return i == 0 ? near(members) : random.nextInt(8);
            case "feed": return 1 + random.nextInt(8);
            case "fault": return random.nextInt(3);
            case "vote": return i == 0 ? near(members) : near(model.texts.size());
            case "carry": return i == 0 ? near(model.texts.size()) : model.today + random.nextInt(dayStep) - 1;
            case "tear": return near(3 * model.texts.size());
            case "textTold": return i == 0 ? near(model.texts.size()) : random.nextInt(8);
            case "text": return random.nextInt(model.today + dayStep);
            case "points": return i == 0 ? near(members) : i == 1 ? near(homes) : random.nextInt(2);
            case "order": return i == 0 ? near(homes) : random.nextInt(members + 1);
            case "wish": return i == 0 ? near(members) : near(homes);
            case "offer", "take", "withdraw": return near(homes);
            case "wait", "moves", "leave": return near(members);
            case "cost": return coins;
            case "parted": return i == 0 ? near(model.costs.size()) : near(homes);
            case "pay": return i == 0 ? near(members) : coins;
            case "year", "fund": return i == 0 ? random.nextInt(40) : coins;
            case "gain": return random.nextInt(101);
            case "count": return random.nextInt(12);
            case "put": return i == 0 ? random.nextInt(6) : i == 1 ? random.nextInt(5) : near(rights);
            case "forge":
                return i == 0 ? random.nextInt(6) : i == 1 ? random.nextInt(9) : random.nextInt(random.nextBoolean() ? 7 : 110) - 3;
            default: return random.nextInt(10);
        }
    }
}
