import java.util.ArrayList;
import java.util.Arrays;
import java.util.HashSet;
import java.util.List;
import java.util.Set;
import java.util.TreeSet;
import java.util.regex.Matcher;
import java.util.regex.Pattern;

/**
 * The document once more, by the longest ways round and with other means than the class: every
 * answer is worked out anew, sheds are really built, rounding is really tried.
 */
public final class Model {
    private static final class Home {
        int kind;
        int rate;
        int wealth;
        int owed;
        Set<Integer> rounded = new TreeSet<>();

        Home twin() {
            Home twin = new Home();
            twin.kind = kind;
            twin.rate = rate;
            twin.wealth = wealth;
            twin.owed = owed;
            twin.rounded = new TreeSet<>(rounded);
            return twin;
        }
    }

    private static final List<String> KIND_NAMES = List.of("law", "outward", "shared", "dear", "old", "free");
    private static final int[] ABOVE = {-1, 0, 0, 1, 2, 3};

    private int[][] grid = new int[8][8];
    private List<Home> homes = new ArrayList<>();
    private String tape = "";
    private int[][] keptGrid;
    private List<Home> keptHomes;
    private final int[] sheetBits = new int[4];
    private final long[][] sheetNumbers = new long[4][];
    private final int[] told = new int[7];

    private int tell(int finding) {
        told[-1000000001 - finding]++;
        return finding;
    }

    private static boolean within(long v, long least, long most) {
        return least <= v && v <= most;
    }

    private boolean isHome(int h) {
        return within(h, 0, homes.size() - 1);
    }

    private boolean fits(long v) {
        return within(v, 0, 3) || within(v, 10, 9 + homes.size());
    }

    public int square(int square, int v) {
        if (!within(square, 0, 63) || !fits(v)) return tell(Due.BEYOND);
        int before = grid[square / 8][square % 8];
        grid[square / 8][square % 8] = v;
        return before;
    }

    public int at(int square) {
        return within(square, 0, 63) ? grid[square / 8][square % 8] : tell(Due.BEYOND);
    }

    public int house(int kind, int rate) {
        if (!within(kind, 0, 5) || !within(rate, 1, 99)) return tell(Due.BEYOND);
        if (homes.size() == 6) return tell(Due.FULL);
        Home home = new Home();
        home.kind = kind;
        home.rate = rate;
        homes.add(home);
        return homes.size() - 1;
    }

    public int of(int house, int what) {
        if (!isHome(house) || !within(what, 0, 7)) return tell(Due.BEYOND);
        Home home = homes.get(house);
        int squares = 0;
        for (int[] row : grid) for (int v : row) if (v == 10 + house) squares++;
        int[] answers = {home.kind, home.rate, home.wealth, squares, cornersOf(house).size(),
            home.rounded.size(), tax(house), home.owed};
        return answers[what];
    }

    public int set(int house, int what, int v) {
        if (!isHome(house) || !within(what, 1, 2)) return tell(Due.BEYOND);
        if (what == 1 ? !within(v, 1, 99) : !within(v, 0, 9999)) return tell(Due.BEYOND);
        Home home = homes.get(house);
        int before = what == 1 ? home.rate : home.wealth;
        if (what == 1) home.rate = v;
        else home.wealth = v;
        return before;
    }

    public int turn(int house, int kind) {
        if (!isHome(house) || !within(kind, 0, 5)) return tell(Due.BEYOND);
        int before = homes.get(house).kind;
        homes.get(house).kind = kind;
        return before;
    }

    public int as(int house, int kind) {
        if (!isHome(house) || !within(kind, 0, 5)) return tell(Due.BEYOND);
        for (int k = homes.get(house).kind; k >= 0; k = ABOVE[k]) {
            if (k == kind) return homes.get(house).rate;
        }
        return tell(Due.KIND);
    }

    private boolean mine(int house, int row, int column) {
        return within(row, 0, 7) && within(column, 0, 7) && grid[row][column] == 10 + house;
    }

    private int shape(int house, int point) {
        int r = point / 9;
        int c = point % 9;
        String squares = "";
        for (int dr = -1; dr <= 0; dr++) {
            for (int dc = -1; dc <= 0; dc++) squares += mine(house, r + dr, c + dc) ? "#" : ".";
        }
        switch (squares.replace(".", "").length()) {
            case 1: return 1;
            case 3: return 3;
            case 2: return squares.equals("#..#") || squares.equals(".##.") ? 2 : 0;
            default: return 0;
        }
    }

    private List<Integer> cornersOf(int house) {
        List<Integer> corners = new ArrayList<>();
        for (int p = 0; p < 81; p++) if (shape(house, p) > 0) corners.add(p);
        return corners;
    }

    public int corner(int house, int point) {
        if (!isHome(house) || !within(point, 0, 80)) return tell(Due.BEYOND);
        return shape(house, point);
    }

    public int ith(int house, int i) {
        if (!isHome(house) || i < 0) return tell(Due.BEYOND);
        List<Integer> corners = cornersOf(house);
        return i < corners.size() ? corners.get(i) : tell(Due.NONE);
    }

    private boolean open(int row, int column) {
        return within(row, 0, 7) && within(column, 0, 7) && grid[row][column] < 2;
    }

    /** Whether the open segment meets the open square, by the stretches of time in its rows and columns. */
    static boolean meets(int square, int point, int row, int column) {
        int y = 2 * (square / 8) + 1;
        int x = 2 * (square % 8) + 1;
        int dy = 2 * (point / 9) - y;
        int dx = 2 * (point % 9) - x;
        int whole = Math.abs(dy * dx);
        int inRowA = (2 * row - y) * whole / dy;
        int inRowB = (2 * row + 2 - y) * whole / dy;
        int inColumnA = (2 * column - x) * whole / dx;
        int inColumnB = (2 * column + 2 - x) * whole / dx;
        int from = Math.max(0, Math.max(Math.min(inRowA, inRowB), Math.min(inColumnA, inColumnB)));
        int till = Math.min(whole, Math.min(Math.max(inRowA, inRowB), Math.max(inColumnA, inColumnB)));
        return from < till;
    }

    private boolean visible(int square, int point) {
        int r = point / 9;
        int c = point % 9;
        if (!open(r - 1, c - 1) && !open(r - 1, c) && !open(r, c - 1) && !open(r, c)) return false;
        for (int row = 0; row < 8; row++) {
            for (int column = 0; column < 8; column++) {
                if (grid[row][column] >= 2 && meets(square, point, row, column)) return false;
            }
        }
        return true;
    }

    private List<Integer> streets() {
        List<Integer> streets = new ArrayList<>();
        for (int s = 0; s < 64; s++) if (grid[s / 8][s % 8] == 1) streets.add(s);
        return streets;
    }

    private int watchers(int point) {
        int n = 0;
        for (int s : streets()) if (visible(s, point)) n++;
        return n;
    }

    public int sees(int square, int point) {
        if (!within(square, 0, 63) || !within(point, 0, 80)) return tell(Due.BEYOND);
        if (grid[square / 8][square % 8] != 1) return tell(Due.STATE);
        return visible(square, point) ? 1 : 0;
    }

    public int seen(int point) {
        return within(point, 0, 80) ? watchers(point) : tell(Due.BEYOND);
    }

    private int worth(int house, int point) {
        int shape = shape(house, point);
        if (shape == 0 || homes.get(house).rounded.contains(point)) return 0;
        int watchers = watchers(point);
        if (watchers == 0) return 0;
        boolean lesser = (owners(point) & ((1 << house) - 1)) != 0;
        int outward = shape == 1 ? 2 : 1;
        int dear = watchers >= 5 ? outward + 1 : outward;
        switch (homes.get(house).kind) {
            case 0: return 1;
            case 1: return outward;
            case 2: return lesser ? 0 : 1;
            case 3: return dear;
            case 4: return lesser ? 0 : 2;
            default: return dear < 2 ? 0 : dear - 2;
        }
    }

    private int worthOfAll(int house) {
        int sum = 0;
        for (int p : cornersOf(house)) sum += worth(house, p);
        return sum;
    }

    private int tax(int house) {
        return worthOfAll(house) * homes.get(house).rate;
    }

    public int counts(int house, int point) {
        if (!isHome(house) || !within(point, 0, 80)) return tell(Due.BEYOND);
        return worth(house, point);
    }

    private int owners(int point) {
        int set = 0;
        for (int h = 0; h < homes.size(); h++) if (shape(h, point) > 0) set += 1 << h;
        return set;
    }

    public int whose(int point) {
        return within(point, 0, 80) ? owners(point) : tell(Due.BEYOND);
    }

    public int round(int house, int point) {
        if (!isHome(house) || !within(point, 0, 80)) return tell(Due.BEYOND);
        if (shape(house, point) == 0) return tell(Due.NONE);
        Home home = homes.get(house);
        if (home.rounded.contains(point)) return tell(Due.STATE);
        if (home.rounded.size() == 8) return tell(Due.FULL);
        home.rounded.add(point);
        return tax(house);
    }

    /** TAX if a point were rounded, by rounding it for the while. */
    private int taxRounded(int house, int point) {
        homes.get(house).rounded.add(point);
        int tax = tax(house);
        homes.get(house).rounded.remove(point);
        return tax;
    }

    public int pays(int house, int point) {
        if (!isHome(house) || !within(point, 0, 80)) return tell(Due.BEYOND);
        if (shape(house, point) == 0 || homes.get(house).rounded.contains(point)) return tell(Due.NONE);
        int less = tax(house) - taxRounded(house, point);
        for (int years = 1; years <= 40; years++) if (years * less >= 40) return years;
        return tell(Due.NONE);
    }

    public int shed(int house) {
        if (!isHome(house)) return tell(Due.BEYOND);
        int least = tax(house);
        int best = -1;
        for (int s = 0; s < 64; s++) {
            if (grid[s / 8][s % 8] == 0) {
                grid[s / 8][s % 8] = 2;
                int tax = tax(house);
                grid[s / 8][s % 8] = 0;
                if (tax < least) {
                    least = tax;
                    best = s;
                }
            }
        }
        return best < 0 ? tell(Due.NONE) : best;
    }

    private static final int[][] PLOTS = allPlots();

    private static int[][] allPlots() {
        int[][] plots = new int[13][];
        for (int set = 1; set < 4096; set++) {
            int n = Integer.bitCount(set);
            Model alone = new Model();
            alone.homes.add(new Home());
            for (int b = 0; b < 12; b++) if ((set >> b & 1) == 1) alone.grid[b / 4][b % 4] = 10;
            if (alone.piecesOfHouse0() == 1) {
                int corners = alone.cornersOf(0).size();
                if (plots[n] == null || corners < plots[n][0]) plots[n] = new int[] {corners, set};
            }
        }
        return plots;
    }

    private int piecesOfHouse0() {
        Set<Integer> left = new HashSet<>();
        for (int s = 0; s < 64; s++) if (mine(0, s / 8, s % 8)) left.add(s);
        int pieces = 0;
        while (!left.isEmpty()) {
            pieces++;
            List<Integer> front = new ArrayList<>(List.of(left.iterator().next()));
            while (!front.isEmpty()) {
                int s = front.remove(0);
                if (left.remove(s)) {
                    if (s % 8 > 0) front.add(s - 1);
                    if (s % 8 < 7) front.add(s + 1);
                    front.add(s - 8);
                    front.add(s + 8);
                }
            }
        }
        return pieces;
    }

    public int plot(int n, int what) {
        return within(n, 1, 12) && within(what, 0, 1) ? PLOTS[n][what] : tell(Due.BEYOND);
    }

    private List<Integer> tour() {
        Set<Integer> open = new TreeSet<>();
        for (int p = 0; p < 81; p++) if (owners(p) != 0 && watchers(p) > 0) open.add(p);
        List<Integer> tour = new ArrayList<>();
        while (!open.isEmpty()) {
            Set<Integer> most = new TreeSet<>();
            int best = -1;
            for (int s : streets()) {
                Set<Integer> now = new TreeSet<>();
                for (int p : open) if (visible(s, p)) now.add(p);
                if (now.size() > most.size()) {
                    most = now;
                    best = s;
                }
            }
            tour.add(best);
            open.removeAll(most);
        }
        return tour;
    }

    public int spots(int what) {
        if (!within(what, -1, 63)) return tell(Due.BEYOND);
        List<Integer> tour = tour();
        if (what == -1) return tour.size();
        return what < tour.size() ? tour.get(what) : tell(Due.NONE);
    }

    public int yields() {
        int sum = 0;
        for (int h = 0; h < homes.size(); h++) sum += tax(h);
        return sum;
    }

    public int rateFor(int n) {
        if (n < 0) return tell(Due.BEYOND);
        int sum = 0;
        for (int h = 0; h < homes.size(); h++) sum += worthOfAll(h);
        if (n == 0) return 1;
        if (sum == 0) return tell(Due.NONE);
        long rate = ((long) n + sum - 1) / sum;
        return rate <= 99 ? (int) rate : tell(Due.NONE);
    }

    public int neighbours() {
        int[] common = new int[100];
        for (int a = 0; a < homes.size(); a++) {
            for (int b = a + 1; b < homes.size(); b++) {
                List<Integer> both = cornersOf(a);
                both.retainAll(cornersOf(b));
                common[10 * a + b] = both.size();
            }
        }
        int most = Arrays.stream(common).max().getAsInt();
        if (most == 0) return tell(Due.NONE);
        int pair = 0;
        while (common[pair] < most) pair++;
        return pair;
    }

    public int years(int n) {
        if (!within(n, 1, 20)) return tell(Due.BEYOND);
        int paid = 0;
        for (int year = 0; year < n; year++) {
            for (int h = 0; h < homes.size(); h++) {
                Home home = homes.get(h);
                int tax = tax(h);
                int now = tax > home.wealth ? home.wealth : tax;
                paid += now;
                home.owed += tax - now;
                home.wealth -= now;
                if (home.wealth < 40 || home.rounded.size() >= 8) continue;
                int best = -1;
                int least = tax;
                for (int p : cornersOf(h)) {
                    if (!home.rounded.contains(p) && taxRounded(h, p) < least) {
                        least = taxRounded(h, p);
                        best = p;
                    }
                }
                if (best >= 0) {
                    home.rounded.add(best);
                    home.wealth -= 40;
                }
            }
        }
        return paid;
    }

    public int feed(int bytes, int n) {
        if (!within(n, 1, 4)) return tell(Due.BEYOND);
        if (tape.length() + n > 120) return tell(Due.FULL);
        String all = "" + (char) (bytes >>> 24) + (char) (bytes >>> 16 & 255)
            + (char) (bytes >>> 8 & 255) + (char) (bytes & 255);
        tape += all.substring(4 - n);
        return tape.length();
    }

    public int wipe() {
        int had = tape.length();
        tape = "";
        return had;
    }

    /** Tokens with their places; the last one is empty and stands at the end of the tape. */
    private List<String> tokens = new ArrayList<>();
    private List<Integer> places = new ArrayList<>();

    private void cut() {
        tokens.clear();
        places.clear();
        Matcher m = Pattern.compile("[a-z]+|[0-9]+|[^ ]", Pattern.DOTALL).matcher(tape);
        while (m.find()) {
            tokens.add(m.group());
            places.add(m.start());
        }
        tokens.add("");
        places.add(tape.length());
    }

    private int number(int i) {
        String t = tokens.get(i);
        if (!t.matches("[0-9]+")) return -1;
        String short1 = t.replaceFirst("^0+(?=.)", "");
        return short1.length() > 4 ? -1 : Integer.parseInt(short1);
    }

    /** Behind the squares from token i on; or -1 less the faulty token. */
    private int squares(int i, int v) {
        int last = -1;
        int k = i;
        do {
            int n = number(k);
            if (n <= last || n > 63) return -1 - k;
            last = n;
            grid[n / 8][n % 8] = v;
            k++;
        } while (tokens.get(k).matches("[0-9]+"));
        if (!tokens.get(k).equals("to")) return k;
        int n = number(k + 1);
        if (n <= last || n > 63) return -1 - (k + 1);
        for (int s = last; s <= n; s++) grid[s / 8][s % 8] = v;
        return k + 2;
    }

    private int item(int i) {
        String word = tokens.get(i);
        int plain = List.of("ground", "street", "shed", "tree").indexOf(word);
        if (plain >= 0) return squares(i + 1, plain);
        int kind = KIND_NAMES.indexOf(word);
        if (kind >= 0) {
            if (homes.size() == 6) return -1 - i;
            if (!within(number(i + 1), 1, 99)) return -1 - (i + 1);
            Home home = new Home();
            home.kind = kind;
            home.rate = number(i + 1);
            homes.add(home);
            return tokens.get(i + 2).equals("on") ? squares(i + 3, 9 + homes.size()) : i + 2;
        }
        if (!word.equals("rich")) return -1 - i;
        int h = number(i + 1);
        if (!isHome(h)) return -1 - (i + 1);
        if (number(i + 2) < 0) return -1 - (i + 2);
        homes.get(h).wealth = number(i + 2);
        return i + 3;
    }

    private static int[][] twin(int[][] grid) {
        int[][] twin = new int[8][];
        for (int r = 0; r < 8; r++) twin[r] = grid[r].clone();
        return twin;
    }

    private static List<Home> twin(List<Home> homes) {
        List<Home> twin = new ArrayList<>();
        for (Home home : homes) twin.add(home.twin());
        return twin;
    }

    public int town() {
        int[][] gridBefore = twin(grid);
        List<Home> homesBefore = twin(homes);
        cut();
        int items = 0;
        int i = 0;
        while (true) {
            i = item(i);
            items++;
            if (i >= 0 && tokens.get(i).isEmpty()) {
                tape = "";
                return items;
            }
            if (i >= 0 && tokens.get(i).equals(";")) {
                i++;
                continue;
            }
            grid = gridBefore;
            homes = homesBefore;
            tape = "";
            return -1 - places.get(i < 0 ? -1 - i : i);
        }
    }

    public int sheet(int s, int bits, int n) {
        if (!within(s, 0, 3) || !List.of(0, 8, 16, 64).contains(bits)) return tell(Due.BEYOND);
        if (n < 0) return tell(Due.SIZE);
        if (n > 40) return tell(Due.BEYOND);
        sheetBits[s] = bits;
        sheetNumbers[s] = bits == 0 ? null : new long[n];
        return bits == 0 ? 0 : n;
    }

    public long write(int s, int i, long v) {
        if (!within(s, 0, 3)) return tell(Due.BEYOND);
        if (sheetNumbers[s] == null) return tell(Due.MISSING);
        if (!within(i, 0, sheetNumbers[s].length - 1)) return tell(Due.BEYOND);
        long before = sheetNumbers[s][i];
        int above = 64 - sheetBits[s];
        sheetNumbers[s][i] = v << above >> above;
        return before;
    }

    public int copy(int s, int from, int t, int to, int n) {
        if (!within(s, 0, 3) || !within(t, 0, 3)) return tell(Due.BEYOND);
        if (sheetNumbers[s] == null || sheetNumbers[t] == null) return tell(Due.MISSING);
        if (sheetBits[s] != sheetBits[t]) return tell(Due.KIND);
        if (from < 0 || to < 0 || n < 0 || (long) from + n > sheetNumbers[s].length
            || (long) to + n > sheetNumbers[t].length) return tell(Due.BEYOND);
        long[] were = sheetNumbers[s].clone();
        for (int k = 0; k < n; k++) sheetNumbers[t][to + k] = were[from + k];
        return n;
    }

    public int lays(int s, int square) {
        if (!within(s, 0, 3)) return tell(Due.BEYOND);
        if (sheetNumbers[s] == null) return tell(Due.MISSING);
        if (!within(square, 0, 63)) return tell(Due.BEYOND);
        int came = 0;
        for (int k = 0; k < sheetNumbers[s].length; k++) {
            long v = sheetNumbers[s][k];
            int q = square + k;
            if (q <= 63 && fits(v)) {
                grid[q / 8][q % 8] = (int) v;
                came++;
            }
        }
        return came;
    }

    public int read(int s, int house) {
        if (!within(s, 0, 3)) return tell(Due.BEYOND);
        if (sheetNumbers[s] == null) return tell(Due.MISSING);
        if (!isHome(house)) return tell(Due.BEYOND);
        long[] want = cornersOf(house).stream().mapToLong(p -> p).toArray();
        int wrong = Arrays.mismatch(sheetNumbers[s], want);
        return wrong < 0 ? 0 : 1 + wrong;
    }

    public int image() {
        keptGrid = twin(grid);
        keptHomes = twin(homes);
        return 1;
    }

    public int undo() {
        if (keptGrid == null) return tell(Due.NONE);
        grid = twin(keptGrid);
        homes = twin(keptHomes);
        return homes.size();
    }

    public int tear() {
        int had = keptGrid == null ? 0 : 1;
        keptGrid = null;
        return had;
    }

    public int count(int what) {
        if (!within(what, 0, 5)) return tell(Due.BEYOND);
        int[] kinds = new int[16];
        for (int[] row : grid) for (int v : row) kinds[v]++;
        int ofHouses = Arrays.stream(kinds, 10, 16).sum();
        return new int[] {homes.size(), kinds[1], kinds[2], kinds[3], tape.length(), ofHouses}[what];
    }

    public int status(int which) {
        if (!within(which, -1, 6)) return tell(Due.BEYOND);
        return which < 0 ? Arrays.stream(told).sum() : told[which];
    }
}
