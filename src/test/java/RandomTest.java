import java.lang.reflect.Method;
import java.lang.reflect.Modifier;
import java.util.ArrayList;
import java.util.Arrays;
import java.util.Comparator;
import java.util.List;
import java.util.Random;

/** Runs of calls by chance (always the same ones), each answer beside the model's. */
public final class RandomTest {
    private static final int RUNS = 900;
    // An object is good for 512 calls: what the last text and the look around at the end take is left free.
    private static final int CALLS = 512 - 122 - 72;

    private final Random random;
    private final int run;
    private final CornerTax tax = new CornerTax();
    private final Model model = new Model();
    private final List<String> calls = new ArrayList<>();

    private RandomTest(int run) {
        this.run = run;
        random = new Random(run);
    }

    public static void main(String[] args) throws Exception {
        List<Method> methods = new ArrayList<>();
        for (Method m : CornerTax.class.getDeclaredMethods()) {
            if (Modifier.isPublic(m.getModifiers())) methods.add(m);
        }
        methods.sort(Comparator.comparing(Method::getName));
        Due.is("methods of the face", 35, methods.size());
        for (int run = 0; run < RUNS && Due.wrong() == 0; run++) {
            new RandomTest(run).play(methods);
        }
        Due.finish();
    }

    private void play(List<Method> methods) throws Exception {
        settle();
        while (calls.size() < CALLS && Due.wrong() == 0) {
            if (random.nextInt(12) == 0) {
                tell();
            } else {
                Method m = methods.get(random.nextInt(methods.size()));
                call(m.getName(), argumentsFor(m));
            }
        }
        for (int s = 0; s < 64; s++) call("at", s);
        for (int f = -1; f < 7; f++) call("status", f);
        Due.holds("an object's calls: " + calls.size(), calls.size() <= 512);
    }

    /** A town to begin with, crowded more or less. */
    private void settle() throws Exception {
        int houses = random.nextInt(7);
        for (int h = 0; h < houses; h++) call("house", random.nextInt(6), 1 + random.nextInt(99));
        int crowd = random.nextInt(101);
        int streets = 1 + random.nextInt(4);
        for (int s = 0; s < 64; s++) {
            if (random.nextInt(100) < crowd) {
                int v = random.nextInt(3 + streets + 2 * houses);
                call("square", s, v < streets ? 1 : v < streets + 3 ? v - streets + 1 : 10 + random.nextInt(Math.max(1, houses)));
            }
        }
        for (int h = 0; h < houses; h++) if (random.nextBoolean()) call("set", h, 2, random.nextInt(1500));
    }

    private void call(String name, Object... arguments) throws Exception {
        Class<?>[] types = Arrays.stream(arguments).map(a -> a instanceof Long ? long.class : int.class).toArray(Class<?>[]::new);
        Method theirs = Model.class.getMethod(name, types);
        long want = ((Number) theirs.invoke(model, arguments)).longValue();
        long got = ((Number) CornerTax.class.getMethod(name, types).invoke(tax, arguments)).longValue();
        String told = name + Arrays.toString(arguments);
        calls.add(told + " = " + got);
        Due.is("run " + run + ": " + told, want, got);
        if (want != got) System.out.println(String.join("\n", calls));
    }

    private int near(int least, int most) {
        int dice = random.nextInt(40);
        if (dice == 0) return least - 1;
        if (dice == 1) return most + 1;
        if (dice == 2) return random.nextInt();
        return least + random.nextInt(most - least + 1);
    }

    private Object[] argumentsFor(Method m) {
        switch (m.getName()) {
            case "square": return new Object[] {near(0, 63), random.nextInt(3) == 0 ? near(10, 15) : near(0, 3)};
            case "at": return new Object[] {near(0, 63)};
            case "house": return new Object[] {near(0, 5), near(1, 99)};
            case "of": return new Object[] {near(0, 5), near(0, 7)};
            case "set": return new Object[] {near(0, 5), near(1, 2), random.nextBoolean() ? near(1, 99) : near(0, 9999)};
            case "turn":
            case "as": return new Object[] {near(0, 5), near(0, 5)};
            case "ith": return new Object[] {near(0, 5), near(0, 12)};
            case "corner":
            case "counts":
            case "round":
            case "pays": return houseAndPoint();
            case "sees": return new Object[] {someStreet(), near(0, 80)};
            case "seen":
            case "whose": return new Object[] {near(0, 80)};
            case "shed": return new Object[] {near(0, 5)};
            case "plot": return new Object[] {near(1, 12), near(0, 1)};
            case "spots": return new Object[] {random.nextBoolean() ? near(-1, 63) : near(-1, 6)};
            case "rateFor": return new Object[] {near(0, 3000)};
            case "years": return new Object[] {near(1, 20)};
            case "feed": return new Object[] {random.nextInt(), near(1, 4)};
            case "sheet": return new Object[] {near(0, 3), new int[] {0, 8, 16, 64, 8, 16, 64, 32}[random.nextInt(8)], near(0, 40)};
            case "write": return new Object[] {near(0, 3), near(0, 12), number()};
            case "copy": return new Object[] {near(0, 3), near(0, 6), near(0, 3), near(0, 6), near(0, 9)};
            case "lays": return new Object[] {near(0, 3), near(0, 63)};
            case "read": return new Object[] {near(0, 3), near(0, 5)};
            case "count": return new Object[] {near(0, 5)};
            case "status": return new Object[] {near(-1, 6)};
            default: return new Object[0];
        }
    }

    private Object[] houseAndPoint() {
        int house = near(0, 5);
        int point = near(0, 80);
        if (house >= 0 && house < 6 && random.nextInt(4) > 0) {
            for (int k = 0; k < 81; k++) {
                int p = Math.floorMod(point + k, 81);
                if (house < model.count(0) && model.corner(house, p) > 0) return new Object[] {house, p};
            }
        }
        return new Object[] {house, point};
    }

    private int someStreet() {
        int square = near(0, 63);
        for (int k = 0; k < 64 && random.nextInt(50) > 0; k++) {
            int s = Math.floorMod(square + k, 64);
            if (model.at(s) == 1) return s;
        }
        return square;
    }

    private Object number() {
        switch (random.nextInt(4)) {
            case 0: return (long) random.nextInt(81);
            case 1: return (long) random.nextInt(16);
            case 2: return (long) random.nextInt();
            default: return random.nextLong();
        }
    }

    /** A text of a town, mostly a right one, is fed and told. */
    private void tell() throws Exception {
        if (random.nextInt(10) > 0) call("wipe");
        StringBuilder text = new StringBuilder(item());
        while (random.nextInt(3) > 0) text.append(gap()).append(';').append(gap()).append(item());
        for (int faults = random.nextInt(3); faults > 0; faults--) spoil(text);
        if (text.length() > 120) text.setLength(random.nextInt(121));
        for (int i = 0; i < text.length();) {
            int n = Math.min(1 + random.nextInt(4), text.length() - i);
            int bytes = random.nextInt();
            for (int k = 0; k < n; k++) bytes = bytes << 8 | text.charAt(i + k);
            call("feed", bytes, n);
            i += n;
        }
        call("town");
    }

    private void spoil(StringBuilder text) {
        if (text.length() == 0) return;
        int place = random.nextInt(text.length());
        String signs = "az09; ,-A\t\u00e9oto on7 64 100 9999 10000 ";
        switch (random.nextInt(4)) {
            case 0: text.deleteCharAt(place); break;
            case 1: text.setLength(place); break;
            case 2: text.setCharAt(place, signs.charAt(random.nextInt(signs.length()))); break;
            default: text.insert(place, signs.charAt(random.nextInt(signs.length())));
        }
    }

    private String gap() {
        return " ".repeat(random.nextInt(3));
    }

    private String item() {
        switch (random.nextInt(5)) {
            case 0:
            case 1: return new String[] {"street", "shed", "tree", "ground"}[random.nextInt(4)] + gap() + squares();
            case 2:
            case 3:
                String house = new String[] {"law", "outward", "shared", "dear", "old", "free"}[random.nextInt(6)]
                    + gap() + near(1, 99) + gap();
                return random.nextInt(4) == 0 ? house : house + "on" + gap() + squares();
            default: return "rich " + near(0, 5) + " " + near(0, 9999);
        }
    }

    private String squares() {
        int n = random.nextInt(50);
        StringBuilder squares = new StringBuilder().append(n);
        while (random.nextInt(3) > 0) {
            n += random.nextInt(12);
            squares.append(" ").append(gap()).append(n);
        }
        if (random.nextInt(3) == 0) squares.append(gap()).append("to").append(gap()).append(n + random.nextInt(9));
        return squares.toString();
    }
}
