import java.util.Arrays;

/** A town of squares whose houses pay by how many of their corners can be seen from the street. */
public final class CornerTax {
    private static final int BEYOND = -1000000001;
    private static final int FULL = -1000000002;
    private static final int KIND = -1000000003;
    private static final int NONE = -1000000004;
    private static final int STATE = -1000000005;
    private static final int MISSING = -1000000006;
    private static final int SIZE = -1000000007;
    private static final int FINDINGS = 7;

    private static final int SIDE = 8;
    private static final int SQUARES = 64;
    private static final int POINT_SIDE = 9;
    private static final int POINTS = 81;

    private static final int GROUND = 0;
    private static final int STREET = 1;
    private static final int SHED = 2;
    private static final int TREE = 3;
    private static final int FIRST_HOUSE = 10;

    private static final int NO_CORNER = 0;
    private static final int OUT = 1;
    private static final int CROSSED = 2;
    private static final int IN = 3;

    private static final int MOST_HOUSES = 6;
    private static final int KINDS = 6;
    private static final int MOST_RATE = 99;
    private static final int MOST_WEALTH = 9999;
    private static final int MOST_ROUNDED = 8;
    private static final int ROUNDING_COST = 40;
    private static final int MOST_YEARS = 20;

    private static final int PLOT_ROWS = 3;
    private static final int PLOT_COLUMNS = 4;
    private static final int PLOT_SQUARES = 12;

    private static final int SHEETS = 4;
    private static final int MOST_NUMBERS = 40;
    private static final int MOST_BYTES = 120;

    private final Town now;
    private final Town kept;
    private boolean isKept;
    private final Sights sights;
    private final TownText text;
    private final Sheet[] sheets;
    private final int[] findings;
    private final int[] plotCorners;
    private final int[] plotSets;

    public CornerTax() {
        Law[] laws = new Law[] {
            new Law(), new Outward(), new Shared(), new Dear(), new Old(), new Free()
        };
        now = new Town(laws);
        kept = new Town(laws);
        sights = new Sights(now);
        text = new TownText(now, new Town(laws));
        sheets = new Sheet[SHEETS];
        for (int s = 0; s < SHEETS; s++) {
            sheets[s] = new Sheet();
        }
        findings = new int[FINDINGS];
        plotCorners = new int[PLOT_SQUARES + 1];
        plotSets = new int[PLOT_SQUARES + 1];
    }

    // ---- squares

    public int square(int square, int v) {
        if (!isSquare(square) || !now.mayBe(v)) {
            return finding(BEYOND);
        }
        int before = now.squares[square];
        now.lay(square, v);
        sights.forget();
        return before;
    }

    public int at(int square) {
        if (!isSquare(square)) {
            return finding(BEYOND);
        }
        return now.squares[square];
    }

    // ---- houses

    public int house(int kind, int rate) {
        if (!isKind(kind) || !isRate(rate)) {
            return finding(BEYOND);
        }
        if (now.built >= MOST_HOUSES) {
            return finding(FULL);
        }
        return now.build(kind, rate);
    }

    public int of(int house, int what) {
        if (!isHouse(house)) {
            return finding(BEYOND);
        }
        House home = now.houses[house];
        switch (what) {
            case 0:
                return home.kind;
            case 1:
                return home.rate;
            case 2:
                return home.wealth;
            case 3:
                return now.squaresThatAre(FIRST_HOUSE + house);
            case 4:
                return now.cornersOf(house);
            case 5:
                return home.roundedCount;
            case 6:
                return taxOf(house);
            case 7:
                return home.owed;
            default:
                return finding(BEYOND);
        }
    }

    public int set(int house, int what, int v) {
        if (!isHouse(house)) {
            return finding(BEYOND);
        }
        House home = now.houses[house];
        if (what == 1 && isRate(v)) {
            int before = home.rate;
            home.rate = v;
            return before;
        }
        if (what == 2 && isWealth(v)) {
            int before = home.wealth;
            home.wealth = v;
            return before;
        }
        return finding(BEYOND);
    }

    public int turn(int house, int kind) {
        if (!isHouse(house) || !isKind(kind)) {
            return finding(BEYOND);
        }
        House home = now.houses[house];
        int before = home.kind;
        home.kind = kind;
        return before;
    }

    public int as(int house, int kind) {
        if (!isHouse(house) || !isKind(kind)) {
            return finding(BEYOND);
        }
        if (!now.lawOf(house).isOf(kind)) {
            return finding(KIND);
        }
        return now.houses[house].rate;
    }

    // ---- corners

    public int corner(int house, int point) {
        if (!isHouse(house) || !isPoint(point)) {
            return finding(BEYOND);
        }
        return now.shapeAt(house, point);
    }

    public int ith(int house, int i) {
        if (!isHouse(house) || i < 0) {
            return finding(BEYOND);
        }
        int point = now.cornerBehind(house, -1);
        for (int k = 0; k < i && k < POINTS && point < POINTS; k++) {
            point = now.cornerBehind(house, point);
        }
        return point < POINTS ? point : finding(NONE);
    }

    public int sees(int square, int point) {
        if (!isSquare(square) || !isPoint(point)) {
            return finding(BEYOND);
        }
        if (now.squares[square] != STREET) {
            return finding(STATE);
        }
        return sights.reaches(square, point) ? 1 : 0;
    }

    public int seen(int point) {
        if (!isPoint(point)) {
            return finding(BEYOND);
        }
        return sights.seenFrom(point);
    }

    public int counts(int house, int point) {
        if (!isHouse(house) || !isPoint(point)) {
            return finding(BEYOND);
        }
        return sights.countOf(house, point);
    }

    public int whose(int point) {
        if (!isPoint(point)) {
            return finding(BEYOND);
        }
        return now.ownersAt(point);
    }

    public int round(int house, int point) {
        if (!isHouse(house) || !isPoint(point)) {
            return finding(BEYOND);
        }
        if (now.shapeAt(house, point) == NO_CORNER) {
            return finding(NONE);
        }
        House home = now.houses[house];
        if (home.isRounded(point)) {
            return finding(STATE);
        }
        if (home.roundedCount >= MOST_ROUNDED) {
            return finding(FULL);
        }
        home.addRounded(point);
        return taxOf(house);
    }

    public int pays(int house, int point) {
        if (!isHouse(house) || !isPoint(point)) {
            return finding(BEYOND);
        }
        // A point that is no corner, or is rounded, counts nothing, so it saves nothing either.
        int saved = now.houses[house].rate * sights.countOf(house, point);
        if (saved <= 0) {
            return finding(NONE);
        }
        return (ROUNDING_COST + saved - 1) / saved;
    }

    // ---- plans

    public int shed(int house) {
        if (!isHouse(house)) {
            return finding(BEYOND);
        }
        int best = sights.bestShed(house);
        return best >= 0 ? best : finding(NONE);
    }

    public int plot(int n, int what) {
        if (n < 1 || n > PLOT_SQUARES || what < 0 || what > 1) {
            return finding(BEYOND);
        }
        // No plot has 0 corners, so 0 tells that this one hasn't been looked for yet.
        if (plotCorners[n] == 0) {
            findPlot(n);
        }
        return what == 0 ? plotCorners[n] : plotSets[n];
    }

    public int spots(int what) {
        if (what < -1 || what >= SQUARES) {
            return finding(BEYOND);
        }
        sights.planTour();
        if (what == -1) {
            return sights.tourLength;
        }
        return what < sights.tourLength ? sights.tour[what] : finding(NONE);
    }

    public int yields() {
        int sum = 0;
        for (int h = 0; h < now.built; h++) {
            sum += taxOf(h);
        }
        return sum;
    }

    public int rateFor(int n) {
        if (n < 0) {
            return finding(BEYOND);
        }
        int counted = 0;
        for (int h = 0; h < now.built; h++) {
            counted += sights.countsOf(h);
        }
        for (int rate = 1; rate <= MOST_RATE; rate++) {
            if (rate * counted >= n) {
                return rate;
            }
        }
        return finding(NONE);
    }

    public int neighbours() {
        int best = -1;
        int most = 0;
        for (int a = 0; a < now.built; a++) {
            for (int b = a + 1; b < now.built; b++) {
                int common = now.cornersInCommon(a, b);
                if (common > most) {
                    most = common;
                    best = 10 * a + b;
                }
            }
        }
        return best >= 0 ? best : finding(NONE);
    }

    public int years(int n) {
        if (n < 1 || n > MOST_YEARS) {
            return finding(BEYOND);
        }
        int paid = 0;
        for (int year = 0; year < n; year++) {
            for (int h = 0; h < now.built; h++) {
                paid += liveYear(h);
            }
        }
        return paid;
    }

    // ---- the text

    public int feed(int bytes, int n) {
        if (n < 1 || n > 4) {
            return finding(BEYOND);
        }
        if (text.length + n > MOST_BYTES) {
            return finding(FULL);
        }
        for (int k = n - 1; k >= 0; k--) {
            text.append(bytes >> (8 * k));
        }
        return text.length;
    }

    public int wipe() {
        int had = text.length;
        text.length = 0;
        return had;
    }

    public int town() {
        int items = text.perform();
        text.length = 0;
        sights.forget();
        return items;
    }

    // ---- sheets

    public int sheet(int s, int bits, int n) {
        if (!isSheet(s) || bits != 0 && bits != 8 && bits != 16 && bits != 64) {
            return finding(BEYOND);
        }
        if (n < 0) {
            return finding(SIZE);
        }
        if (n > MOST_NUMBERS) {
            return finding(BEYOND);
        }
        sheets[s].become(bits, bits == 0 ? 0 : n);
        return sheets[s].size;
    }

    public long write(int s, int i, long v) {
        if (!isSheet(s)) {
            return finding(BEYOND);
        }
        Sheet paper = sheets[s];
        if (paper.isMissing()) {
            return finding(MISSING);
        }
        if (i < 0 || i >= paper.size) {
            return finding(BEYOND);
        }
        long before = paper.numbers[i];
        paper.numbers[i] = paper.fitted(v);
        return before;
    }

    public int copy(int s, int from, int t, int to, int n) {
        if (!isSheet(s) || !isSheet(t)) {
            return finding(BEYOND);
        }
        Sheet source = sheets[s];
        Sheet goal = sheets[t];
        if (source.isMissing() || goal.isMissing()) {
            return finding(MISSING);
        }
        if (source.bits != goal.bits) {
            return finding(KIND);
        }
        if (!source.hasRange(from, n) || !goal.hasRange(to, n)) {
            return finding(BEYOND);
        }
        System.arraycopy(source.numbers, from, goal.numbers, to, n);
        return n;
    }

    public int lays(int s, int square) {
        if (!isSheet(s)) {
            return finding(BEYOND);
        }
        Sheet paper = sheets[s];
        if (paper.isMissing()) {
            return finding(MISSING);
        }
        if (!isSquare(square)) {
            return finding(BEYOND);
        }
        int came = 0;
        for (int i = 0; i < paper.size && square + i < SQUARES; i++) {
            long v = paper.numbers[i];
            if (v >= 0 && v < FIRST_HOUSE + MOST_HOUSES && now.mayBe((int) v)) {
                now.lay(square + i, (int) v);
                came++;
            }
        }
        sights.forget();
        return came;
    }

    public int read(int s, int house) {
        if (!isSheet(s)) {
            return finding(BEYOND);
        }
        Sheet paper = sheets[s];
        if (paper.isMissing()) {
            return finding(MISSING);
        }
        if (!isHouse(house)) {
            return finding(BEYOND);
        }
        int point = now.cornerBehind(house, -1);
        for (int i = 0; i < paper.size; i++) {
            if (point >= POINTS || paper.numbers[i] != point) {
                return 1 + i;
            }
            point = now.cornerBehind(house, point);
        }
        return point < POINTS ? 1 + paper.size : 0;
    }

    // ---- images

    public int image() {
        kept.become(now);
        isKept = true;
        return 1;
    }

    public int undo() {
        if (!isKept) {
            return finding(NONE);
        }
        now.become(kept);
        sights.forget();
        return now.built;
    }

    public int tear() {
        int had = isKept ? 1 : 0;
        isKept = false;
        return had;
    }

    public int count(int what) {
        switch (what) {
            case 0:
                return now.built;
            case 1:
                return now.squaresThatAre(STREET);
            case 2:
                return now.squaresThatAre(SHED);
            case 3:
                return now.squaresThatAre(TREE);
            case 4:
                return text.length;
            case 5:
                return now.squaresOfHouses();
            default:
                return finding(BEYOND);
        }
    }

    public int status(int which) {
        if (which < -1 || which >= FINDINGS) {
            return finding(BEYOND);
        }
        if (which >= 0) {
            return findings[which];
        }
        int sum = 0;
        for (int k = 0; k < FINDINGS; k++) {
            sum += findings[k];
        }
        return sum;
    }

    // ---- what the calls share

    private int finding(int which) {
        int k = BEYOND - which;
        if (k >= 0 && k < FINDINGS) {
            findings[k]++;
        }
        return which;
    }

    private static boolean isSquare(int square) {
        return square >= 0 && square < SQUARES;
    }

    private static boolean isPoint(int point) {
        return point >= 0 && point < POINTS;
    }

    private static boolean isKind(int kind) {
        return kind >= 0 && kind < KINDS;
    }

    private static boolean isRate(int rate) {
        return rate >= 1 && rate <= MOST_RATE;
    }

    private static boolean isWealth(int wealth) {
        return wealth >= 0 && wealth <= MOST_WEALTH;
    }

    private static boolean isSheet(int s) {
        return s >= 0 && s < SHEETS;
    }

    private boolean isHouse(int house) {
        return house >= 0 && house < now.built;
    }

    private int taxOf(int house) {
        return now.houses[house].rate * sights.countsOf(house);
    }

    private int liveYear(int house) {
        House home = now.houses[house];
        int tax = home.rate * sights.countsOf(house);
        int paid = Math.min(tax, home.wealth);
        home.wealth -= paid;
        home.owed += tax - paid;
        if (home.wealth >= ROUNDING_COST && home.roundedCount < MOST_ROUNDED) {
            int dearest = sights.dearestCorner(house);
            if (dearest >= 0) {
                home.addRounded(dearest);
                home.wealth -= ROUNDING_COST;
            }
        }
        return paid;
    }

    private void findPlot(int n) {
        int fewest = POINTS;
        int best = 0;
        for (int set = 1; set < 1 << PLOT_SQUARES; set++) {
            if (Integer.bitCount(set) == n) {
                int wide = widened(set);
                int corners = cornersOfShape(wide);
                if (corners < fewest && hangsTogether(wide)) {
                    fewest = corners;
                    best = set;
                }
            }
        }
        plotCorners[n] = fewest;
        plotSets[n] = best;
    }

    /** The set with an empty column behind its columns, so that a shift by one never comes to another row. */
    private static int widened(int set) {
        int wide = 0;
        for (int row = 0; row < PLOT_ROWS; row++) {
            int squares = set >> (PLOT_COLUMNS * row) & ((1 << PLOT_COLUMNS) - 1);
            wide |= squares << ((PLOT_COLUMNS + 1) * row);
        }
        return wide;
    }

    /** Bit by bit, the four squares that meet at each point at once. */
    private static int cornersOfShape(int wide) {
        int southEast = wide;
        int southWest = wide << 1;
        int northEast = wide << (PLOT_COLUMNS + 1);
        int northWest = wide << (PLOT_COLUMNS + 2);
        int odd = southEast ^ southWest ^ northEast ^ northWest;
        int crossed = (southEast ^ southWest) & ~(southEast ^ northWest) & ~(southWest ^ northEast);
        return Integer.bitCount(odd | crossed);
    }

    private static boolean hangsTogether(int wide) {
        int reached = wide & -wide;
        for (int step = 0; step < PLOT_SQUARES; step++) {
            int around = reached << 1 | reached >> 1
                | reached << (PLOT_COLUMNS + 1) | reached >> (PLOT_COLUMNS + 1);
            reached |= around & wide;
        }
        return reached == wide;
    }

    /** What a corner that is seen and isn't rounded counts; each kind leans on the one that it is under. */
    private static class Law {
        Law() {
        }

        String title() {
            return "law";
        }

        boolean isOf(int kind) {
            return kind == 0;
        }

        int weigh(boolean isOut, boolean isLessers, int seenFrom) {
            return 1;
        }
    }

    private static class Outward extends Law {
        Outward() {
        }

        String title() {
            return "outward";
        }

        boolean isOf(int kind) {
            return kind == 1 || super.isOf(kind);
        }

        int weigh(boolean isOut, boolean isLessers, int seenFrom) {
            return isOut ? 2 : 1;
        }
    }

    private static class Shared extends Law {
        Shared() {
        }

        String title() {
            return "shared";
        }

        boolean isOf(int kind) {
            return kind == 2 || super.isOf(kind);
        }

        int weigh(boolean isOut, boolean isLessers, int seenFrom) {
            return isLessers ? 0 : super.weigh(isOut, isLessers, seenFrom);
        }
    }

    private static class Dear extends Outward {
        Dear() {
        }

        String title() {
            return "dear";
        }

        boolean isOf(int kind) {
            return kind == 3 || super.isOf(kind);
        }

        int weigh(boolean isOut, boolean isLessers, int seenFrom) {
            return super.weigh(isOut, isLessers, seenFrom) + (seenFrom >= 5 ? 1 : 0);
        }
    }

    private static final class Old extends Shared {
        Old() {
        }

        String title() {
            return "old";
        }

        boolean isOf(int kind) {
            return kind == 4 || super.isOf(kind);
        }

        int weigh(boolean isOut, boolean isLessers, int seenFrom) {
            return 2 * super.weigh(isOut, isLessers, seenFrom);
        }
    }

    private static final class Free extends Dear {
        Free() {
        }

        String title() {
            return "free";
        }

        boolean isOf(int kind) {
            return kind == 5 || super.isOf(kind);
        }

        int weigh(boolean isOut, boolean isLessers, int seenFrom) {
            return Math.max(0, super.weigh(isOut, isLessers, seenFrom) - 2);
        }
    }

    private static final class House {
        int kind;
        int rate;
        int wealth;
        int owed;
        final int[] rounded;
        int roundedCount;

        House() {
            rounded = new int[MOST_ROUNDED];
        }

        void begin(int newKind, int newRate) {
            kind = newKind;
            rate = newRate;
            wealth = 0;
            owed = 0;
            roundedCount = 0;
        }

        boolean isRounded(int point) {
            for (int k = 0; k < roundedCount; k++) {
                if (rounded[k] == point) {
                    return true;
                }
            }
            return false;
        }

        void addRounded(int point) {
            if (roundedCount < MOST_ROUNDED) {
                rounded[roundedCount] = point;
                roundedCount++;
            }
        }

        void become(House other) {
            kind = other.kind;
            rate = other.rate;
            wealth = other.wealth;
            owed = other.owed;
            roundedCount = other.roundedCount;
            System.arraycopy(other.rounded, 0, rounded, 0, MOST_ROUNDED);
        }
    }

    /** Squares and houses: all that an image keeps. */
    private static final class Town {
        final Law[] laws;
        final int[] squares;
        final House[] houses;
        int built;
        // Sets of squares, kept beside the row of squares so that a line is tested at once.
        long streets;
        long walls;

        Town(Law[] laws) {
            this.laws = laws;
            squares = new int[SQUARES];
            houses = new House[MOST_HOUSES];
            for (int h = 0; h < MOST_HOUSES; h++) {
                houses[h] = new House();
            }
        }

        boolean mayBe(int v) {
            return v >= GROUND && v <= TREE || v >= FIRST_HOUSE && v < FIRST_HOUSE + built;
        }

        void lay(int square, int v) {
            long bit = 1L << square;
            squares[square] = v;
            streets = v == STREET ? streets | bit : streets & ~bit;
            walls = v == GROUND || v == STREET ? walls & ~bit : walls | bit;
        }

        int build(int kind, int rate) {
            int h = built;
            if (h < MOST_HOUSES) {
                houses[h].begin(kind, rate);
                built++;
            }
            return h;
        }

        Law lawOf(int house) {
            return laws[houses[house].kind];
        }

        int squaresThatAre(int v) {
            int sum = 0;
            for (int s = 0; s < SQUARES; s++) {
                if (squares[s] == v) {
                    sum++;
                }
            }
            return sum;
        }

        int squaresOfHouses() {
            int sum = 0;
            for (int s = 0; s < SQUARES; s++) {
                if (squares[s] >= FIRST_HOUSE) {
                    sum++;
                }
            }
            return sum;
        }

        boolean isOf(int house, int row, int column) {
            return row >= 0 && row < SIDE && column >= 0 && column < SIDE
                && squares[SIDE * row + column] == FIRST_HOUSE + house;
        }

        int shapeAt(int house, int point) {
            int row = point / POINT_SIDE;
            int column = point % POINT_SIDE;
            boolean northWest = isOf(house, row - 1, column - 1);
            boolean northEast = isOf(house, row - 1, column);
            boolean southWest = isOf(house, row, column - 1);
            boolean southEast = isOf(house, row, column);
            int held = (northWest ? 1 : 0) + (northEast ? 1 : 0)
                + (southWest ? 1 : 0) + (southEast ? 1 : 0);
            if (held == 1) {
                return OUT;
            }
            if (held == 3) {
                return IN;
            }
            return held == 2 && northWest == southEast ? CROSSED : NO_CORNER;
        }

        int cornersOf(int house) {
            int sum = 0;
            for (int p = 0; p < POINTS; p++) {
                if (shapeAt(house, p) != NO_CORNER) {
                    sum++;
                }
            }
            return sum;
        }

        /** The next corner behind a point, or POINTS if there is none. */
        int cornerBehind(int house, int point) {
            for (int p = point + 1; p < POINTS; p++) {
                if (shapeAt(house, p) != NO_CORNER) {
                    return p;
                }
            }
            return POINTS;
        }

        int cornersInCommon(int a, int b) {
            int sum = 0;
            for (int p = 0; p < POINTS; p++) {
                if (shapeAt(a, p) != NO_CORNER && shapeAt(b, p) != NO_CORNER) {
                    sum++;
                }
            }
            return sum;
        }

        int ownersAt(int point) {
            int set = 0;
            for (int h = 0; h < built; h++) {
                if (shapeAt(h, point) != NO_CORNER) {
                    set |= 1 << h;
                }
            }
            return set;
        }

        boolean isLessersCorner(int house, int point) {
            for (int h = 0; h < house; h++) {
                if (shapeAt(h, point) != NO_CORNER) {
                    return true;
                }
            }
            return false;
        }

        /** What a point would count for a house if it were seen from so many squares. */
        int countIfSeen(int house, int point, int seenFrom) {
            if (seenFrom <= 0 || houses[house].isRounded(point)) {
                return 0;
            }
            int shape = shapeAt(house, point);
            if (shape == NO_CORNER) {
                return 0;
            }
            return lawOf(house).weigh(shape == OUT, isLessersCorner(house, point), seenFrom);
        }

        void become(Town other) {
            built = other.built;
            streets = other.streets;
            walls = other.walls;
            System.arraycopy(other.squares, 0, squares, 0, SQUARES);
            for (int h = 0; h < MOST_HOUSES; h++) {
                houses[h].become(other.houses[h]);
            }
        }
    }

    /** What is seen of a town, and what follows from it; numbers are kept until a square changes. */
    private static final class Sights {
        private static final int UNKNOWN = -1;
        private static final int LONGEST_LINE = 14;

        final Town town;
        final int[] seenBy;
        final int[] lost;
        final int[] saved;
        // What each street's square sees of the corners: points 0 to 63, and those from 64 on.
        final long[] views;
        final long[] moreViews;
        final int[] tour;
        int tourLength;

        Sights(Town town) {
            this.town = town;
            seenBy = new int[POINTS];
            Arrays.fill(seenBy, UNKNOWN);
            lost = new int[SQUARES];
            saved = new int[SQUARES];
            views = new long[SQUARES];
            moreViews = new long[SQUARES];
            tour = new int[SQUARES];
            tourLength = UNKNOWN;
        }

        void forget() {
            Arrays.fill(seenBy, UNKNOWN);
            tourLength = UNKNOWN;
        }

        /**
         * The squares through whose inside the line from the middle of a square to a point goes.
         * In half squares the middle is odd and the point even, so no line runs along an edge, and
         * edges are crossed at 1, 3, 5, .. of the height and the width; both at once is a point.
         */
        static long lineOf(int square, int point) {
            int row = square / SIDE;
            int column = square % SIDE;
            int down = 2 * (point / POINT_SIDE) - (2 * row + 1);
            int right = 2 * (point % POINT_SIDE) - (2 * column + 1);
            int height = Math.abs(down);
            int width = Math.abs(right);
            int rowStep = down > 0 ? 1 : -1;
            int columnStep = right > 0 ? 1 : -1;
            int nextRow = 1;
            int nextColumn = 1;
            long line = 1L << square;
            for (int step = 0; step < LONGEST_LINE && (nextRow < height || nextColumn < width); step++) {
                int order = nextRow * width - nextColumn * height;
                if (order <= 0) {
                    row += rowStep;
                    nextRow += 2;
                }
                if (order >= 0) {
                    column += columnStep;
                    nextColumn += 2;
                }
                line |= 1L << (SIDE * row + column);
            }
            return line;
        }

        /** The line's last square lies at the point, so a free line has an open square there, too. */
        boolean reaches(int street, int point) {
            return (lineOf(street, point) & town.walls) == 0;
        }

        boolean isStreet(int square) {
            return (town.streets >> square & 1) != 0;
        }

        int seenFrom(int point) {
            if (seenBy[point] == UNKNOWN) {
                int sum = 0;
                for (int s = 0; s < SQUARES; s++) {
                    if (isStreet(s) && reaches(s, point)) {
                        sum++;
                    }
                }
                seenBy[point] = sum;
            }
            return seenBy[point];
        }

        int countOf(int house, int point) {
            if (town.shapeAt(house, point) == NO_CORNER) {
                return 0;
            }
            return town.countIfSeen(house, point, seenFrom(point));
        }

        int countsOf(int house) {
            int sum = 0;
            for (int p = 0; p < POINTS; p++) {
                if (town.shapeAt(house, p) != NO_CORNER) {
                    sum += town.countIfSeen(house, p, seenFrom(p));
                }
            }
            return sum;
        }

        /** The corner that counts most, the least of several; -1 if none counts. */
        int dearestCorner(int house) {
            int best = -1;
            int most = 0;
            for (int p = 0; p < POINTS; p++) {
                if (town.shapeAt(house, p) != NO_CORNER) {
                    int counted = town.countIfSeen(house, p, seenFrom(p));
                    if (counted > most) {
                        most = counted;
                        best = p;
                    }
                }
            }
            return best;
        }

        /** The ground whose shed saves a house most, the least of several; -1 if none saves. */
        int bestShed(int house) {
            Arrays.fill(saved, 0);
            for (int p = 0; p < POINTS; p++) {
                int counted = countOf(house, p);
                if (counted > 0) {
                    addSaved(house, p, counted);
                }
            }
            int best = -1;
            int most = 0;
            for (int s = 0; s < SQUARES; s++) {
                if (town.squares[s] == GROUND && saved[s] > most) {
                    most = saved[s];
                    best = s;
                }
            }
            return best;
        }

        private void addSaved(int house, int point, int counted) {
            countLinesThroughSquares(point);
            int before = seenFrom(point);
            for (int s = 0; s < SQUARES; s++) {
                if (lost[s] > 0) {
                    saved[s] += counted - town.countIfSeen(house, point, before - lost[s]);
                }
            }
        }

        private void countLinesThroughSquares(int point) {
            Arrays.fill(lost, 0);
            for (int s = 0; s < SQUARES; s++) {
                if (isStreet(s)) {
                    long line = lineOf(s, point);
                    if ((line & town.walls) == 0) {
                        countSquaresOf(line);
                    }
                }
            }
        }

        private void countSquaresOf(long line) {
            for (int s = 0; s < SQUARES; s++) {
                lost[s] += (int) (line >> s & 1);
            }
        }

        /** The round of the counters. */
        void planTour() {
            if (tourLength != UNKNOWN) {
                return;
            }
            lookAround();
            long open = 0;
            long moreOpen = 0;
            for (int s = 0; s < SQUARES; s++) {
                open |= views[s];
                moreOpen |= moreViews[s];
            }
            tourLength = 0;
            for (int k = 0; k < SQUARES && (open | moreOpen) != 0; k++) {
                int best = widestView(open, moreOpen);
                tour[k] = best;
                tourLength++;
                open &= ~views[best];
                moreOpen &= ~moreViews[best];
            }
        }

        private void lookAround() {
            Arrays.fill(views, 0);
            Arrays.fill(moreViews, 0);
            for (int p = 0; p < POINTS; p++) {
                if (town.ownersAt(p) != 0) {
                    lookAt(p);
                }
            }
        }

        private void lookAt(int point) {
            for (int s = 0; s < SQUARES; s++) {
                if (isStreet(s) && reaches(s, point)) {
                    if (point < SQUARES) {
                        views[s] |= 1L << point;
                    } else {
                        moreViews[s] |= 1L << (point - SQUARES);
                    }
                }
            }
        }

        private int widestView(long open, long moreOpen) {
            int best = 0;
            int most = 0;
            for (int s = 0; s < SQUARES; s++) {
                int fresh = Long.bitCount(views[s] & open) + Long.bitCount(moreViews[s] & moreOpen);
                if (fresh > most) {
                    most = fresh;
                    best = s;
                }
            }
            return best;
        }
    }

    /** The tape, and what its text makes of a town: one token is looked at ahead. */
    private static final class TownText {
        private static final int END = 0;
        private static final int WORD = 1;
        private static final int NUMBER = 2;
        private static final int SIGN = 3;
        private static final int NO_TOKEN = 4;

        final Town town;
        final Town before;
        final int[] tape;
        int length;
        private int start;
        private int end;
        private int token;
        private int value;

        TownText(Town town, Town before) {
            this.town = town;
            this.before = before;
            tape = new int[MOST_BYTES];
        }

        void append(int b) {
            if (length < MOST_BYTES) {
                tape[length] = b & 255;
                length++;
            }
        }

        /** How many items came to the town, or -1 less the place of the fault. */
        int perform() {
            before.become(town);
            end = 0;
            advance();
            int items = 0;
            // An item takes a byte at least, so no more of them than bytes can stand here.
            while (items < MOST_BYTES && takesItem()) {
                items++;
                if (token == END) {
                    return items;
                }
                if (token != SIGN) {
                    break;
                }
                advance();
            }
            town.become(before);
            return -1 - start;
        }

        /** This and what it asks stop at the token that can't stand there, if they answer false. */
        private boolean takesItem() {
            if (token != WORD) {
                return false;
            }
            if (isWord("rich")) {
                return takesWealth();
            }
            int v = plainSquare();
            if (v < 0) {
                int kind = kindNamed();
                if (kind < 0 || !takesHouse(kind)) {
                    return false;
                }
                if (token != WORD || !isWord("on")) {
                    return true;
                }
                v = FIRST_HOUSE + town.built - 1;
            }
            advance();
            return takesSquares(v);
        }

        private boolean takesSquares(int v) {
            int last = -1;
            for (int k = 0; k == 0 || k < SQUARES && token == NUMBER; k++) {
                if (!isNumberWithin(last + 1, SQUARES - 1)) {
                    return false;
                }
                last = value;
                town.lay(last, v);
                advance();
            }
            if (token != WORD || !isWord("to")) {
                return true;
            }
            advance();
            if (!isNumberWithin(last + 1, SQUARES - 1)) {
                return false;
            }
            for (int s = last + 1; s <= value; s++) {
                town.lay(s, v);
            }
            advance();
            return true;
        }

        private boolean takesHouse(int kind) {
            if (town.built >= MOST_HOUSES) {
                return false;
            }
            advance();
            if (!isNumberWithin(1, MOST_RATE)) {
                return false;
            }
            town.build(kind, value);
            advance();
            return true;
        }

        private boolean takesWealth() {
            advance();
            if (!isNumberWithin(0, town.built - 1)) {
                return false;
            }
            int house = value;
            advance();
            if (!isNumberWithin(0, MOST_WEALTH)) {
                return false;
            }
            town.houses[house].wealth = value;
            advance();
            return true;
        }

        private boolean isNumberWithin(int least, int most) {
            return token == NUMBER && value >= least && value <= most;
        }

        private int plainSquare() {
            if (isWord("ground")) {
                return GROUND;
            }
            if (isWord("street")) {
                return STREET;
            }
            if (isWord("shed")) {
                return SHED;
            }
            return isWord("tree") ? TREE : -1;
        }

        private int kindNamed() {
            for (int k = 0; k < KINDS; k++) {
                if (isWord(town.laws[k].title())) {
                    return k;
                }
            }
            return -1;
        }

        private boolean isWord(String word) {
            if (word.length() != end - start) {
                return false;
            }
            for (int i = 0; i < word.length(); i++) {
                if (tape[start + i] != word.charAt(i)) {
                    return false;
                }
            }
            return true;
        }

        private void advance() {
            start = end;
            while (start < length && tape[start] == ' ') {
                start++;
            }
            end = start;
            if (start >= length) {
                token = END;
            } else if (isLetter(tape[start])) {
                token = WORD;
                passLetters();
            } else if (isDigit(tape[start])) {
                token = NUMBER;
                passDigits();
            } else {
                token = tape[start] == ';' ? SIGN : NO_TOKEN;
                end = start + 1;
            }
        }

        private void passLetters() {
            while (end < length && isLetter(tape[end])) {
                end++;
            }
        }

        private void passDigits() {
            value = 0;
            while (end < length && isDigit(tape[end])) {
                // No number may be above 9999: one more stands for all of these.
                value = Math.min(10 * value + tape[end] - '0', MOST_WEALTH + 1);
                end++;
            }
        }

        private static boolean isLetter(int b) {
            return b >= 'a' && b <= 'z';
        }

        private static boolean isDigit(int b) {
            return b >= '0' && b <= '9';
        }
    }

    private static final class Sheet {
        int bits;
        int size;
        final long[] numbers;

        Sheet() {
            numbers = new long[MOST_NUMBERS];
        }

        boolean isMissing() {
            return bits == 0;
        }

        void become(int newBits, int newSize) {
            bits = newBits;
            size = newSize;
            Arrays.fill(numbers, 0);
        }

        long fitted(long v) {
            if (bits == 8) {
                return (byte) v;
            }
            return bits == 16 ? (short) v : v;
        }

        boolean hasRange(int from, int n) {
            return from >= 0 && n >= 0 && n <= size && from <= size - n;
        }
    }
}
