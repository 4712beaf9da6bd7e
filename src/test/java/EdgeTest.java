import java.util.Arrays;

/**
 * What each call answers at the least and the greatest that it takes, when nothing is there, when all
 * is full, and where a number would pass an int or a long: squares, houses, corners, plans, images.
 * (Texts and sheets: TextEdgeTest and SheetEdgeTest; what is just beyond: FindingTest.)
 */
public final class EdgeTest {
    private static final int FAR = Integer.MAX_VALUE;

    public static void main(String[] args) {
        promise1();
        promises2And3();
        promise4();
        promise5Least();
        promise5Greatest();
        promise6();
        promise7();
        promise8();
        promise9EverySquareAlone();
        promise9Sides();
        promise10();
        promise11Blocks();
        promise11Points();
        promise12();
        promise13Seen();
        promise13Kinds();
        promise13Lesser();
        promise14();
        promise15();
        promise15Apart();
        promise16();
        promise17();
        promise17Full();
        promise18();
        promise19();
        promise19Long();
        promise20();
        promise21();
        promise22();
        promise23Wealth();
        promise23Rounding();
        promise23Eight();
        promise23Long();
        promise32();
        promise33();
        promise34();
        promise35();
        promise36();
        Due.finish();
    }

    private static CornerTax town(String text) {
        CornerTax tax = new CornerTax();
        Due.holds("a right text: " + text, Due.told(tax, text) > 0);
        return tax;
    }

    /** House 0 on every other square, streets on all the others: as many corners as can be seen. */
    private static CornerTax board(String kindAndRate) {
        StringBuilder squares = new StringBuilder();
        for (int s = 0; s < 64; s++) if (isDark(s)) squares.append(' ').append(s);
        return town("street 0 to 63;" + kindAndRate + " on" + squares);
    }

    private static boolean isDark(int square) {
        return (square / 8 + square % 8) % 2 == 0;
    }

    // ---- squares

    private static void promise1() {
        CornerTax tax = new CornerTax();
        for (int p = 0; p <= 80; p++) {
            Due.is("1 no streets: nothing is seen", 0, tax.seen(p));
            Due.is("1 no houses: nobody's", 0, tax.whose(p));
        }
        Due.is("1 an empty tape is no text", -1, tax.town());
        Due.is("1 yields", 0, tax.yields());
        Due.is("1 years", 0, tax.years(1));
        Due.is("1 nothing is kept", 0, tax.tear());
        Due.is("1 no findings", 0, tax.status(-1));
        for (int h = 0; h < 6; h++) Due.is("1 no house " + h, Due.BEYOND, tax.of(h, 0));
        for (int s = 0; s < 4; s++) Due.is("3. MISSING at first, sheet " + s, Due.MISSING, tax.lays(s, 0));
    }

    private static void promises2And3() {
        CornerTax tax = town("law 1;law 1;law 1;law 1;law 1;law 1");
        int[] all = {1, 2, 3, 10, 11, 12, 13, 14, 15, 0};
        for (int s : new int[] {0, 7, 8, 56, 63}) {
            int was = 0;
            for (int v : all) {
                Due.is("2 what it was, square " + s, was, tax.square(s, v));
                Due.is("3 what it is, square " + s, v, tax.at(s));
                was = v;
            }
        }
        for (int s = 0; s < 64; s++) Due.is("2 all are ground again", 0, tax.at(s));
        Due.is("2 no findings", 0, tax.status(-1));
        CornerTax every = new CornerTax();
        for (int s = 0; s < 64; s++) every.square(s, 1 + s % 3);
        for (int s = 0; s < 64; s++) Due.is("3 each square by itself", 1 + s % 3, every.at(s));
        CornerTax two = town("law 1;law 1");
        Due.is("2 of the last house that there is", 0, two.square(0, 11));
        Due.is("2 of the first that there isn't", Due.BEYOND, two.square(0, 12));
        two.house(0, 1);
        Due.is("2 of it when there is", 11, two.square(0, 12));
    }

    // ---- houses

    private static void promise4() {
        CornerTax tax = new CornerTax();
        int[] kinds = {0, 5, 0, 5, 1, 4};
        int[] rates = {1, 99, 99, 1, 2, 98};
        for (int h = 0; h < 6; h++) {
            Due.is("4 its number", h, tax.house(kinds[h], rates[h]));
            Due.is("4 its kind", kinds[h], tax.of(h, 0));
            Due.is("4 its rate", rates[h], tax.of(h, 1));
            for (int what = 2; what <= 7; what++) Due.is("4 of no squares: " + what, 0, tax.of(h, what));
            Due.is("4 how many", h + 1, tax.count(0));
        }
        Due.is("4 FULL", Due.FULL, tax.house(0, 1));
        CornerTax again = town("law 1");
        again.image();
        for (int h = 1; h < 6; h++) again.house(3, 9);
        again.square(0, 15);
        again.square(63, 1);
        again.set(5, 2, 9);
        again.round(5, 10);
        again.years(1);
        Due.holds("4 it owes or has paid", again.of(5, 2) == 0);
        again.undo();
        for (int h = 1; h < 6; h++) Due.is("4 there is room again", h, again.house(2, 8));
        for (int what = 2; what <= 7; what++) Due.is("4 nothing of one taken back: " + what, 0, again.of(5, what));
        Due.is("4 FULL again", Due.FULL, again.house(2, 8));
    }

    private static void promise5Least() {
        CornerTax tax = town("law 1");
        int[] answers = {0, 1, 0, 0, 0, 0, 0, 0};
        for (int what = 0; what <= 7; what++) Due.is("5 least: " + what, answers[what], tax.of(0, what));
        Due.is("5 no street: no tax", 0, town("free 99 on 0 to 5").of(0, 6));
        CornerTax whole = town("law 99 on 0 to 63");
        Due.is("5 all squares", 64, whole.of(0, 3));
        Due.is("5 all squares: corners", 4, whole.of(0, 4));
        Due.is("5 all squares: tax", 0, whole.of(0, 6));
        Due.is("5 squares of another", 0, town("law 1 on 0 to 63;law 1").of(1, 3));
    }

    private static void promise5Greatest() {
        // 49 points within are CROSSED, 28 at the sides and two of the town's corners are OUT.
        CornerTax tax = board("law 99");
        Due.is("5 squares", 32, tax.of(0, 3));
        Due.is("5 corners", 79, tax.of(0, 4));
        Due.is("5 tax: 77 seen", 99 * 77, tax.of(0, 6));
        Due.is("5 the town's corners of the house are unseen", 0, tax.seen(0) + tax.seen(80));
        tax.turn(0, 1);
        Due.is("5 tax: OUT twice", 99 * (49 + 2 * 28), tax.of(0, 6));
        tax.turn(0, 4);
        Due.is("5 tax: twice each", 99 * 154, tax.of(0, 6));
        tax.turn(0, 3);
        int dear = 0;
        for (int p = 0; p <= 80; p++) if (watchersOnBoard(p) >= 5 && tax.corner(0, p) > 0) dear++;
        Due.holds("5 some are seen from five", dear > 0 && dear < 77);
        Due.is("5 tax: one more of five", 99 * (49 + 2 * 28 + dear), tax.of(0, 6));
        Due.is("5 greatest wealth", 0, tax.set(0, 2, 9999));
        for (int p = 0; p < 8; p++) tax.round(0, p);
        Due.is("5 rounded", 8, tax.of(0, 5));
    }

    /** On the board a line is free as long as it goes through points alone: along one slant of streets. */
    private static int watchersOnBoard(int point) {
        int row = point / 9;
        int column = point % 9;
        int watchers = 0;
        for (int s = 0; s < 64; s++) {
            int down = 2 * row - 2 * (s / 8) - 1;
            int right = 2 * column - 2 * (s % 8) - 1;
            if (!isDark(s) && Math.abs(down) == Math.abs(right)) watchers++;
        }
        return watchers;
    }

    private static void promise6() {
        CornerTax tax = town("law 50;law 50");
        int[][] sets = {{1, 1, 50}, {1, 99, 1}, {1, 1, 99}, {2, 9999, 0}, {2, 0, 9999}, {2, 1, 0}, {2, 9998, 1}};
        for (int[] s : sets) {
            Due.is("6 what it was", s[2], tax.set(0, s[0], s[1]));
            Due.is("6 what it is", s[1], tax.of(0, s[0]));
        }
        Due.is("6 the other is not the wealth's", 1, tax.of(0, 1));
        Due.is("6 another house stays", 50, tax.of(1, 1));
        Due.is("6 another house stays", 0, tax.of(1, 2));
        Due.is("6 a rate above 99 is a wealth", Due.BEYOND, tax.set(0, 1, 100));
        Due.is("6 a wealth of 100", 9998, tax.set(0, 2, 100));
    }

    private static void promise7() {
        CornerTax tax = town("street 63;law 9 on 0;law 8 on 1;rich 0 300");
        tax.round(0, 10);
        int was = 0;
        for (int kind : new int[] {5, 0, 4, 1, 3, 2, 2, 5}) {
            Due.is("7 what it was", was, tax.turn(0, kind));
            Due.is("7 what it is", kind, tax.of(0, 0));
            was = kind;
        }
        int[] answers = {5, 9, 300, 1, 4, 1};
        for (int what = 0; what <= 5; what++) Due.is("7 all else stays: " + what, answers[what], tax.of(0, what));
        Due.is("7 another house stays", 0, tax.of(1, 0));
    }

    private static void promise8() {
        for (int kind = 0; kind < 6; kind++) {
            CornerTax tax = new CornerTax();
            tax.house(kind, 99);
            Due.is("8 its own kind " + kind, 99, tax.as(0, kind));
            Due.is("8 all are LAW", 99, tax.as(0, 0));
        }
        CornerTax tax = town("law 1");
        Due.is("8 LAW is no OUTWARD", Due.KIND, tax.as(0, 1));
        tax.turn(0, 5);
        Due.is("8 FREE is OUTWARD", 1, tax.as(0, 1));
        Due.is("8 FREE is no SHARED", Due.KIND, tax.as(0, 2));
        Due.is("8 FREE is no OLD", Due.KIND, tax.as(0, 4));
        tax.turn(0, 3);
        Due.is("8 DEAR is no FREE", Due.KIND, tax.as(0, 5));
    }

    // ---- corners

    private static void promise9EverySquareAlone() {
        for (int s = 0; s < 64; s++) {
            CornerTax tax = town("law 1 on " + s);
            int first = 9 * (s / 8) + s % 8;
            for (int p = 0; p <= 80; p++) {
                boolean mine = p == first || p == first + 1 || p == first + 9 || p == first + 10;
                Due.is("9 square " + s + " alone, point " + p, mine ? 1 : 0, tax.corner(0, p));
            }
        }
    }

    private static void promise9Sides() {
        // Each side of the town: a point between two squares of it.
        int[][] sides = {{3, 4, 4}, {59, 60, 76}, {24, 32, 36}, {31, 39, 44}};
        for (int[] side : sides) {
            for (int set = 0; set < 4; set++) {
                CornerTax tax = town("law 1");
                for (int k = 0; k < 2; k++) if ((set >> k & 1) == 1) tax.square(side[k], 10);
                int want = set == 1 || set == 2 ? 1 : 0;
                Due.is("9 point " + side[2] + " at the side, set " + set, want, tax.corner(0, side[2]));
            }
        }
        CornerTax none = town("law 1");
        CornerTax all = town("law 1 on 0 to 63");
        for (int p = 0; p <= 80; p++) {
            Due.is("9 no squares, point " + p, 0, none.corner(0, p));
            boolean ofTown = p == 0 || p == 8 || p == 72 || p == 80;
            Due.is("9 all squares, point " + p, ofTown ? 1 : 0, all.corner(0, p));
        }
        CornerTax rows = town("law 1 on 7 8");
        Due.is("9 the end of a row and the beginning of the next are apart", 8, rows.of(0, 4));
    }

    private static void promise10() {
        CornerTax tax = board("law 1");
        int i = 0;
        for (int p = 0; p <= 80; p++) {
            if (p != 8 && p != 72) {
                Due.is("10 by points", p, tax.ith(0, i));
                i++;
            }
        }
        Due.is("10 the last", 80, tax.ith(0, 78));
        Due.is("10 NONE behind the last", Due.NONE, tax.ith(0, 79));
        CornerTax one = town("law 1 on 63");
        int[] corners = {70, 71, 79, 80};
        for (int k = 0; k < 4; k++) Due.is("10 the last square", corners[k], one.ith(0, k));
        Due.is("10 NONE behind the last", Due.NONE, one.ith(0, 4));
        Due.is("10 NONE: far", Due.NONE, one.ith(0, FAR));
    }

    private static void promise11Blocks() {
        // From square 0 straight at point 80, through points alone on the squares 9, 18, .., 63.
        int[] blocks = {2, 3, 10};
        for (int s = 0; s < 64; s++) {
            for (int v : blocks) {
                CornerTax tax = town("street 0;law 1");
                if (s > 0) tax.square(s, v);
                boolean onIt = s > 0 && s % 9 == 0;
                Due.is("11 from 0 to 80 with " + v + " on " + s, onIt ? 0 : 1, tax.sees(0, 80));
            }
        }
        CornerTax lane = town("tree 0 to 63;street 0 9 18;ground 27 36 45 54 63");
        Due.is("11 through points alone, trees on both sides", 1, lane.sees(0, 80));
        Due.is("11 through points alone, from the next", 1, lane.sees(9, 80));
        Due.is("11 beside the lane", 0, lane.sees(0, 2));
    }

    private static void promise11Points() {
        int[] around = {27, 28, 35, 36};
        // From a street that is at the point itself, and shut in by trees but for it.
        for (int s : around) {
            CornerTax tax = town("tree 0 to 63;street " + s);
            Due.is("11 the street itself is at the point", 1, tax.sees(s, 40));
        }
        CornerTax shut = town("street 0;shed 27;tree 28;law 1 on 35;law 1 on 36");
        Due.is("11 no open square at the point", 0, shut.sees(0, 40));
        shut.square(36, 0);
        Due.is("11 open, but behind", 0, shut.sees(0, 40));
        shut.square(27, 0);
        Due.is("11 open on this side", 1, shut.sees(0, 40));
        shut.square(36, 3);
        Due.is("11 one open square is enough", 1, shut.sees(0, 40));
        for (int v : new int[] {0, 1}) {
            shut.square(27, v);
            Due.is("11 ground and street are open", 1, shut.sees(0, 40));
        }
        CornerTax corners = town("street 0 7 56 63");
        int[] own = {0, 8, 72, 80};
        int[] streets = {0, 7, 56, 63};
        for (int s : streets) {
            for (int p : own) Due.is("11 from end to end", 1, corners.sees(s, p));
        }
    }

    private static void promise12() {
        CornerTax all = town("street 0 to 63");
        for (int p = 0; p <= 80; p++) Due.is("12 all streets, point " + p, 64, all.seen(p));
        CornerTax none = town("law 1 on 0");
        for (int p = 0; p <= 80; p++) Due.is("12 no streets, point " + p, 0, none.seen(p));
        CornerTax board = board("law 1");
        for (int p = 0; p <= 80; p++) Due.is("12 board, point " + p, watchersOnBoard(p), board.seen(p));
        CornerTax trees = town("tree 0 to 63;street 27");
        int[] own = {30, 31, 39, 40};
        int seen = 0;
        for (int p = 0; p <= 80; p++) seen += trees.seen(p);
        Due.is("12 its own four alone", 4, seen);
        for (int p : own) Due.is("12 its own", 1, trees.seen(p));
        Due.told(trees, "street 63");
        Due.is("12 the greatest point", 1, trees.seen(80));
        Due.told(trees, "street 0");
        Due.is("12 the least point", 1, trees.seen(0));
    }

    private static void promise13Seen() {
        // House 0 on square 0; column 0 is the lane in which streets stand one by one.
        CornerTax tax = town("tree 1 to 63;law 1 on 0");
        int[][] due = {{1, 2, 1, 2, 2, 0}, {1, 2, 1, 3, 2, 1}};
        for (int watchers = 0; watchers <= 7; watchers++) {
            if (watchers > 0) tax.square(8 * watchers, 1);
            Due.is("13 seen from", watchers, tax.seen(9));
            for (int kind = 0; kind < 6; kind++) {
                tax.turn(0, kind);
                int want = watchers == 0 ? 0 : due[watchers >= 5 ? 1 : 0][kind];
                Due.is("13 OUT, kind " + kind + ", seen from " + watchers, want, tax.counts(0, 9));
            }
        }
        for (int kind = 0; kind < 6; kind++) {
            tax.turn(0, kind);
            Due.is("13 unseen, kind " + kind, 0, tax.counts(0, 0));
            Due.is("13 no CORNER, kind " + kind, 0, tax.counts(0, 18));
        }
        tax.round(0, 9);
        for (int kind = 0; kind < 6; kind++) {
            tax.turn(0, kind);
            Due.is("13 ROUNDED, kind " + kind, 0, tax.counts(0, 9));
        }
    }

    private static void promise13Kinds() {
        // Point 40 with one, two across and three squares of the house; the street on 36 sees it.
        String[] shapes = {"27", "28 35", "27 28 35"};
        int[][] due = {{1, 2, 1, 2, 2, 0}, {1, 1, 1, 1, 2, 0}, {1, 1, 1, 1, 2, 0}};
        int[][] dueFive = {{1, 2, 1, 3, 2, 1}, {1, 1, 1, 2, 2, 0}, {1, 1, 1, 2, 2, 0}};
        for (int k = 0; k < 3; k++) {
            CornerTax tax = town("street 36;law 1 on " + shapes[k]);
            for (int kind = 0; kind < 6; kind++) {
                tax.turn(0, kind);
                Due.is("13 shape " + shapes[k] + ", kind " + kind, due[k][kind], tax.counts(0, 40));
            }
            Due.told(tax, "street 36 45 54 63");
            Due.is("13 four", 4, tax.seen(40));
            tax.turn(0, 3);
            Due.is("13 shape " + shapes[k] + ", DEAR, four", due[k][3], tax.counts(0, 40));
            tax.square(62, 1);
            Due.is("13 five", 5, tax.seen(40));
            for (int kind = 0; kind < 6; kind++) {
                tax.turn(0, kind);
                Due.is("13 shape " + shapes[k] + ", five, kind " + kind, dueFive[k][kind], tax.counts(0, 40));
            }
        }
    }

    private static void promise13Lesser() {
        // Houses 0 and 5 across from one another at point 40, others of no squares.
        CornerTax tax = town("law 1 on 28;law 1;law 1;law 1;law 1;shared 1 on 35;street 27");
        Due.is("13 SHARED: a lesser has a corner there", 0, tax.counts(5, 40));
        Due.is("13 SHARED: none has one at another", 1, tax.counts(5, 39));
        tax.turn(5, 4);
        Due.is("13 OLD: twice nothing", 0, tax.counts(5, 40));
        Due.is("13 OLD: twice", 2, tax.counts(5, 39));
        tax.turn(0, 2);
        Due.is("13 SHARED: the lesser itself", 1, tax.counts(0, 40));
        tax.turn(0, 4);
        Due.is("13 OLD: the lesser itself", 2, tax.counts(0, 40));
        tax.square(36, 10);
        Due.is("13 two side by side are no corner of the lesser", 0, tax.corner(0, 40));
        Due.is("13 so it counts", 2, tax.counts(5, 40));
        tax.square(36, 14);
        tax.square(28, 0);
        Due.is("13 the house just ahead is a lesser", 0, tax.counts(5, 40));
        tax.square(36, 15);
        Due.is("13 no corner of its own", 0, tax.counts(5, 40));
    }

    private static void promise14() {
        CornerTax tax = town("law 1;law 1;law 1 on 27;law 1 on 28;law 1 on 35;law 1 on 36");
        Due.is("14 the greatest four", 4 + 8 + 16 + 32, tax.whose(40));
        Due.is("14 one", 4, tax.whose(30));
        Due.is("14 two", 12, tax.whose(31));
        CornerTax ends = town("law 1 on 0 7;law 1 on 56 63");
        int[] points = {0, 8, 72, 80};
        int[] sets = {1, 1, 2, 2};
        for (int k = 0; k < 4; k++) Due.is("14 the town's corner " + points[k], sets[k], ends.whose(points[k]));
        CornerTax whole = town("law 1 on 0 to 63");
        Due.is("14 within a house", 0, whole.whose(40));
        Due.is("14 rounded ones are corners yet", 1, afterRound(whole, 0).whose(0));
        CornerTax across = town("law 1 on 27 36;law 1 on 28 35");
        Due.is("14 both are crossed", 3, across.whose(40));
        CornerTax three = town("law 1 on 27 28 35;law 1 on 36");
        Due.is("14 in of one, out of the other", 3, three.whose(40));
    }

    private static CornerTax afterRound(CornerTax tax, int point) {
        tax.round(0, point);
        return tax;
    }

    private static void promise15() {
        CornerTax tax = board("old 99");
        int due = 99 * 154;
        Due.is("15 before", due, tax.of(0, 6));
        Due.is("15 the least point, unseen", due, tax.round(0, 0));
        Due.is("15 the greatest point, unseen", due, tax.round(0, 80));
        for (int p = 1; p <= 6; p++) {
            due -= 198;
            Due.is("15 tax then", due, tax.round(0, p));
            Due.is("15 how many", 2 + p, tax.of(0, 5));
        }
        Due.is("15 FULL: a ninth", Due.FULL, tax.round(0, 7));
        Due.is("15 tax stays", due, tax.of(0, 6));
        Due.is("15 corners are as many", 79, tax.of(0, 4));
        Due.is("15 one that is rounded is a corner yet", 1, tax.corner(0, 1));
        tax.square(63, 0);
        Due.is("15 no corner: NONE, ahead of STATE and FULL", Due.NONE, tax.round(0, 80));
        Due.is("15 it stays rounded", 8, tax.of(0, 5));
        tax.square(63, 10);
        Due.is("15 whatever is built", Due.STATE, tax.round(0, 80));
    }

    private static void promise15Apart() {
        CornerTax tax = town("street 0 to 7;law 9 on 17;law 9 on 18");
        // Each is seen at three corners.
        Due.is("15 a corner that two share", 18, tax.round(0, 20));
        Due.is("15 is rounded for one alone", 27, tax.of(1, 6));
        Due.is("15 for the other, too", 18, tax.round(1, 20));
        Due.is("15 wealth stays at 0", 0, tax.of(0, 2));
        Due.is("15 nothing is owed for it", 0, tax.of(0, 7));
        tax.square(18, 10);
        Due.is("15 two side by side: NONE", Due.NONE, tax.round(0, 20));
        tax.square(17, 0);
        Due.is("15 another shape of the same point is rounded yet", Due.STATE, tax.round(0, 20));
        Due.is("15 and counts nothing", 0, tax.counts(0, 20));
    }

    private static void promise16() {
        CornerTax tax = town("street 36;law 1 on 27");
        for (int kind : new int[] {0, 1}) {
            tax.turn(0, kind);
            for (int rate = 1; rate <= 99; rate++) {
                tax.set(0, 1, rate);
                int years = 1;
                while (years * rate * (kind + 1) < 40) years++;
                Due.is("16 rate " + rate + ", kind " + kind, years, tax.pays(0, 40));
            }
        }
        tax.set(0, 1, 99);
        tax.turn(0, 5);
        Due.is("16 never: FREE counts it 0", Due.NONE, tax.pays(0, 40));
        tax.turn(0, 0);
        tax.round(0, 40);
        Due.is("16 NONE: is rounded", Due.NONE, tax.pays(0, 40));
        CornerTax eight = board("law 40");
        for (int p = 0; p < 8; p++) eight.round(0, p);
        Due.is("16 also with 8 ROUNDED", 1, eight.pays(0, 40));
        Due.is("16 which round would refuse", Due.FULL, eight.round(0, 40));
    }

    // ---- plans

    private static void promise17() {
        CornerTax first = town("tree 2 to 63;street 8;law 1 on 1");
        Due.is("17 the least square", 0, first.shed(0));
        CornerTax last = town("tree 0 to 61;street 55;law 1 on 62");
        Due.is("17 the greatest square", 63, last.shed(0));
        Due.is("17 it is no more than told", 0, last.at(63));
        Due.is("17 nor is the tax", 2, last.of(0, 6));
        last.square(63, 2);
        Due.is("17 as it told", 1, last.of(0, 6));
        Due.is("17 NONE: no ground is left", Due.NONE, last.shed(0));
        CornerTax rounded = town("tree 2 to 63;street 8;law 1 on 1");
        rounded.round(0, 1);
        rounded.round(0, 10);
        Due.is("17 NONE: what is rounded is no more to be hidden", Due.NONE, rounded.shed(0));
        CornerTax free = town("tree 2 to 63;street 8;free 99 on 1");
        Due.is("17 NONE: what counts nothing is no more to be hidden", Due.NONE, free.shed(0));
        CornerTax other = town("tree 2 to 63;street 8;law 1 on 1;law 1 on 63");
        Due.is("17 NONE: what is another's", Due.NONE, other.shed(1));
    }

    private static void promise17Full() {
        Due.is("17 NONE: all is the house's", Due.NONE, town("law 1 on 0 to 63").shed(0));
        Due.is("17 NONE: all is street but the house", Due.NONE, town("street 0 to 63;law 9 on 27").shed(0));
        Due.is("17 NONE: no street", Due.NONE, town("law 9 on 27").shed(0));
        Due.is("17 NONE: no squares", Due.NONE, town("street 0 to 30;law 9").shed(0));
        CornerTax lane = town("tree 1 to 63;street 56;law 7 on 0;ground 24 32");
        Due.is("17 NONE: trees are in the way already", Due.NONE, lane.shed(0));
        Due.told(lane, "ground 8 16 40 48");
        Due.is("17 of several the least", 8, lane.shed(0));
        lane.square(8, 1);
        Due.is("17 streets on both sides: nothing hides all", Due.NONE, lane.shed(0));
        lane.turn(0, 3);
        Due.told(lane, "street 24 40 48");
        Due.is("17 DEAR: five see it", 5, lane.seen(9));
        Due.is("17 DEAR: four would", 16, lane.shed(0));
    }

    private static void promise18() {
        CornerTax tax = town("law 1 on 0;street 63");
        int[] corners = {4, 4, 4, 4, 6, 4, 6, 4, 4, 6, 6, 4};
        for (int n = 12; n >= 1; n--) {
            int set = tax.plot(n, 1);
            Due.is("18 corners, n " + n, corners[n - 1], tax.plot(n, 0));
            Due.is("18 squares of the set, n " + n, n, Integer.bitCount(set));
            Due.holds("18 on the plot, n " + n, set > 0 && set < 4096);
        }
        Due.is("18 one square: the least set", 1, tax.plot(1, 1));
        Due.is("18 all squares: the only set", 4095, tax.plot(12, 1));
        Due.is("18 whatever there is", 1, tax.plot(1, 1));
    }

    private static void promise19() {
        CornerTax tax = town("street 0 to 63");
        Due.is("19 no corners", 0, tax.spots(-1));
        Due.is("19 NONE: no first", Due.NONE, tax.spots(0));
        CornerTax unseen = town("tree 0 to 63;law 1 on 0;street 63");
        Due.is("19 no corner is seen", 0, unseen.spots(-1));
        Due.is("19 NONE: no first", Due.NONE, unseen.spots(0));
        CornerTax last = town("tree 0 to 61;street 63;law 1 on 62");
        Due.is("19 one", 1, last.spots(-1));
        Due.is("19 the greatest square", 63, last.spots(0));
        Due.is("19 NONE: no second", Due.NONE, last.spots(1));
        CornerTax first = town("tree 2 to 63;street 0;law 1 on 1");
        Due.is("19 the least square", 0, first.spots(0));
        Due.is("19 NONE: no second", Due.NONE, first.spots(1));
    }

    private static void promise19Long() {
        // Sixteen streets, each shut in by the house: all see four corners, but that on 0 three.
        StringBuilder text = new StringBuilder("law 1 on 0 to 63;street");
        for (int s = 0; s < 64; s++) if (s / 8 % 2 == 0 && s % 2 == 0) text.append(' ').append(s);
        CornerTax tax = town(text.toString());
        Due.is("19 how many", 16, tax.spots(-1));
        int i = 0;
        for (int s = 1; s < 64; s++) {
            if (s / 8 % 2 == 0 && s % 2 == 0) {
                Due.is("19 of several the least", s, tax.spots(i));
                i++;
            }
        }
        Due.is("19 the last sees fewest", 0, tax.spots(15));
        for (int k = 16; k <= 63; k++) Due.is("19 NONE", Due.NONE, tax.spots(k));
        for (int p : new int[] {1, 9, 10}) tax.round(0, p);
        Due.is("19 ROUNDED or not", 16, tax.spots(-1));
    }

    private static void promise20() {
        Due.is("20 houses without squares", 0, town("law 99;old 99;street 0 to 63").yields());
        CornerTax board = board("old 99");
        Due.is("20 as much as can be", 99 * 154, board.yields());
        for (int h = 1; h < 6; h++) board.house(0, 99);
        Due.is("20 the others have nothing", 99 * 154, board.yields());
        CornerTax six = town("street 0 to 63;law 1 on 9;law 2 on 11;law 3 on 13;law 4 on 25;law 5 on 27;law 99 on 29");
        Due.is("20 all six, the last too", 4 * (1 + 2 + 3 + 4 + 5 + 99), six.yields());
    }

    private static void promise21() {
        CornerTax board = board("old 3");
        // It counts 154.
        int[][] rates = {{0, 1}, {1, 1}, {153, 1}, {154, 1}, {155, 2}, {308, 2}, {309, 3}, {154 * 98, 98},
            {154 * 98 + 1, 99}, {154 * 99, 99}, {154 * 99 + 1, Due.NONE}, {FAR, Due.NONE}};
        for (int[] r : rates) Due.is("21 n " + r[0], r[1], board.rateFor(r[0]));
        Due.is("21 the rate stays", 3, board.of(0, 1));
        board.set(0, 1, 99);
        Due.is("21 whatever the rate is", 2, board.rateFor(155));
        CornerTax none = town("law 99 on 0;law 5");
        Due.is("21 nothing is seen, 0", 1, none.rateFor(0));
        Due.is("21 nothing is seen, 1", Due.NONE, none.rateFor(1));
        CornerTax one = town("tree 0 to 63;law 99 on 0;street 9");
        Due.is("21 counts 1: 99", 99, one.rateFor(99));
        Due.is("21 counts 1: 100", Due.NONE, one.rateFor(100));
    }

    private static void promise22() {
        Due.is("22 NONE: one house", Due.NONE, town("law 1 on 0 to 9").neighbours());
        Due.is("22 NONE: six of no squares", Due.NONE, town("law 1;law 1;law 1;law 1;law 1;law 1").neighbours());
        Due.is("22 one point is enough", 1, town("law 1 on 27;law 1 on 36").neighbours());
        Due.is("22 seen or not, the greatest two", 45, town("law 1;law 1;law 1;law 1;law 1 on 0;law 1 on 9").neighbours());
        Due.is("22 the least and the greatest", 5, town("law 1 on 0;law 1;law 1;law 1;law 1;law 1 on 9").neighbours());
        CornerTax ties = town("law 1 on 0;law 1 on 9;law 1 on 18;law 1 on 27");
        Due.is("22 of several the least", 1, ties.neighbours());
        ties.square(0, 0);
        Due.is("22 of several the least", 12, ties.neighbours());
        ties.square(26, 13);
        ties.square(27, 0);
        Due.is("22 most", 23, ties.neighbours());
        CornerTax rounded = town("law 1 on 27;law 1 on 36");
        rounded.round(0, 40);
        Due.is("22 rounded ones are corners yet", 1, rounded.neighbours());
        CornerTax middle = town("law 1 on 8 to 15;law 1 on 20");
        Due.is("22 NONE: the other's corner lies on a wall", Due.NONE, middle.neighbours());
    }

    private static void promise23Wealth() {
        // Seen at points 9 and 10: 20 a year.
        CornerTax tax = town("tree 1 to 63;street 8;law 10 on 0");
        Due.is("23 a year's tax", 20, tax.of(0, 6));
        int[][] runs = {{0, 0, 0, 20}, {1, 1, 0, 19}, {19, 19, 0, 1}, {20, 20, 0, 0}, {21, 20, 1, 0}, {59, 20, 39, 0}};
        int owed = 0;
        for (int[] r : runs) {
            tax.set(0, 2, r[0]);
            Due.is("23 paid from " + r[0], r[1], tax.years(1));
            Due.is("23 left from " + r[0], r[2], tax.of(0, 2));
            owed += r[3];
            Due.is("23 owed", owed, tax.of(0, 7));
            Due.is("23 nothing is rounded", 0, tax.of(0, 5));
        }
        tax.set(0, 2, 0);
        Due.is("23 nothing is paid in 20 years", 0, tax.years(20));
        Due.is("23 all is owed", owed + 400, tax.of(0, 7));
        Due.is("23 no houses", 0, new CornerTax().years(1));
        CornerTax none = town("law 99;rich 0 9999");
        Due.is("23 a house of no squares", 0, none.years(20));
        Due.is("23 keeps its wealth", 9999, none.of(0, 2));
    }

    private static void promise23Rounding() {
        CornerTax tax = town("tree 1 to 63;street 8;law 10 on 0;rich 0 60");
        Due.is("23 just 40 are left", 20, tax.years(1));
        Due.is("23 one is rounded for them", 1, tax.of(0, 5));
        Due.is("23 nothing is left", 0, tax.of(0, 2));
        Due.is("23 the least point", 0, tax.counts(0, 9));
        Due.is("23 not the other", 1, tax.counts(0, 10));
        tax.set(0, 2, 49);
        tax.years(1);
        Due.is("23 39 are too few", 1, tax.of(0, 5));
        tax.set(0, 2, 50);
        tax.years(1);
        Due.is("23 40 are enough", 2, tax.of(0, 5));
        tax.set(0, 2, 9999);
        Due.is("23 no tax any more", 0, tax.years(20));
        Due.is("23 nothing more is rounded", 2, tax.of(0, 5));
        Due.is("23 nor paid", 9999, tax.of(0, 2));
        CornerTax dear = town("tree 1 to 63;street 8;outward 10 on 0 1 9;rich 0 9999");
        // Points 9 and 19 are OUT, 10 is IN.
        Due.is("23 what counts", 50, dear.of(0, 6));
        dear.years(1);
        Due.is("23 by which tax becomes least", 0, dear.counts(0, 9));
        CornerTax later = town("tree 1 to 63;street 8;outward 10 on 0 1;rich 0 9999");
        later.square(8, 10);
        later.square(9, 1);
        Due.is("23 IN ahead of OUT by points", 3, later.corner(0, 10));
        later.years(1);
        Due.holds("23 not the least point if another saves more", later.counts(0, 10) == 1);
    }

    private static void promise23Eight() {
        CornerTax tax = board("law 1");
        tax.set(0, 2, 9999);
        int paid = 0;
        for (int year = 1; year <= 10; year++) {
            int due = 77 - Math.min(year - 1, 8);
            Due.is("23 tax of year " + year, due, tax.years(1));
            paid += due;
            Due.is("23 rounded by year " + year, Math.min(year, 8), tax.of(0, 5));
            Due.is("23 wealth of year " + year, 9999 - paid - 40 * Math.min(year, 8), tax.of(0, 2));
        }
        CornerTax seven = board("law 1");
        for (int p = 0; p < 7; p++) seven.round(0, p);
        seven.set(0, 2, 9999);
        seven.years(20);
        Due.is("23 with seven, one more", 8, seven.of(0, 5));
        CornerTax two = town("street 0 to 7;law 10 on 17;law 10 on 20;rich 1 9999");
        two.years(1);
        Due.is("23 each from its own wealth", 0, two.of(0, 5));
        Due.is("23 each from its own wealth", 1, two.of(1, 5));
        Due.holds("23 each owes its own", two.of(0, 7) > 0 && two.of(1, 7) == 0);
    }

    private static void promise23Long() {
        // Some 10,000 years of the greatest tax: what is owed stays an int.
        CornerTax tax = board("dear 99");
        long due = tax.of(0, 6);
        for (int k = 0; k < 470; k++) tax.years(20);
        Due.is("23 all that it owed so far", 470 * 20 * due, tax.of(0, 7));
        CornerTax rich = board("old 99");
        rich.set(0, 2, 9999);
        Due.is("23 more than all wealth", 9999, rich.years(1));
        Due.is("23 what is missing", 99 * 154 - 9999, rich.of(0, 7));
    }

    // ---- images

    private static long[] all(CornerTax tax) {
        long[] told = new long[64 + 48];
        for (int s = 0; s < 64; s++) told[s] = tax.at(s);
        for (int h = 0; h < 6; h++) {
            for (int what = 0; what < 8; what++) told[64 + 8 * h + what] = tax.of(h, what);
        }
        return told;
    }

    private static void promise32() {
        CornerTax empty = new CornerTax();
        long[] before = all(empty);
        Due.is("32 of an empty town", 1, empty.image());
        Due.told(empty, "street 0 to 20;law 9 on 30 31;rich 0 500");
        empty.round(0, 33);
        empty.years(3);
        Due.is("33 no houses again", 0, empty.undo());
        Due.holds("33 an empty town again", Arrays.equals(before, all(empty)));
        CornerTax full = board("old 99");
        for (int h = 1; h < 6; h++) full.house(h, 10 * h);
        for (int p = 0; p < 8; p++) full.round(0, p);
        full.set(0, 2, 9999);
        full.years(2);
        long[] fullBefore = all(full);
        Due.is("32 of a full town", 1, full.image());
        Due.is("32 a town of its own again", 1, Due.told(full, "tree 0 to 63"));
        for (int h = 0; h < 6; h++) full.turn(h, 0);
        full.years(20);
        Due.is("33 how many houses", 6, full.undo());
        Due.holds("33 all as it was", Arrays.equals(fullBefore, all(full)));
    }

    private static void promise33() {
        CornerTax tax = town("law 1 on 5");
        tax.image();
        tax.square(5, 0);
        tax.image();
        Due.is("33 latest", 1, tax.undo());
        Due.is("33 what was kept latest, not ahead of it", 0, tax.at(5));
        for (int k = 0; k < 3; k++) {
            tax.square(6, 1 + k);
            tax.house(0, 1);
            Due.is("33 which stays", 1, tax.undo());
            Due.is("33 which stays", 0, tax.at(6));
        }
        tax.sheet(0, 8, 1);
        tax.write(0, 0, 77);
        Due.feed(tax, "tree 9");
        tax.at(-1);
        tax.undo();
        Due.is("33 sheets stay", 77, tax.write(0, 0, 0));
        Due.is("33 the tape stays", 6, tax.count(4));
        Due.is("33 findings stay", 1, tax.status(0));
        Due.is("33 the tape is a text yet", 1, tax.town());
        Due.is("33 rounded ones are taken back, too", 0, tax.of(0, 5));
    }

    private static void promise34() {
        CornerTax tax = new CornerTax();
        Due.is("34 nothing was", 0, tax.tear());
        tax.image();
        tax.image();
        Due.is("34 something was", 1, tax.tear());
        Due.is("34 nothing is any more", 0, tax.tear());
        Due.is("33 NONE", Due.NONE, tax.undo());
        tax.square(1, 1);
        tax.image();
        tax.square(1, 2);
        Due.is("33 a new image", 0, tax.undo());
        Due.is("33 a new image", 1, tax.at(1));
        Due.is("34 undo leaves it kept", 1, tax.tear());
        Due.is("34 no findings but one", 1, tax.status(-1));
    }

    private static void promise35() {
        CornerTax tax = new CornerTax();
        for (int v = 1; v <= 3; v++) {
            String word = new String[] {"street", "shed", "tree"}[v - 1];
            Due.told(tax, word + " 0 to 63");
            for (int what = 0; what <= 5; what++) {
                Due.is("35 all are " + word + ", what " + what, what == v ? 64 : 0, tax.count(what));
            }
        }
        Due.told(tax, "law 1 on 0 to 31;law 1 on 32 to 63");
        int[] answers = {2, 0, 0, 0, 0, 64};
        for (int what = 0; what <= 5; what++) Due.is("35 all are houses', what " + what, answers[what], tax.count(what));
        Due.feed(tax, " ".repeat(120));
        Due.is("35 a full tape", 120, tax.count(4));
    }

    private static void promise36() {
        CornerTax tax = new CornerTax();
        for (int which = -1; which <= 6; which++) Due.is("36 none at first", 0, tax.status(which));
        for (int k = 1; k <= 100; k++) Due.is("36 another", Due.BEYOND, tax.status(k % 2 == 0 ? 7 : -2));
        Due.is("36 counted from then on", 100, tax.status(0));
        Due.is("36 all", 100, tax.status(-1));
        tax.image();
        for (int k = 1; k <= 50; k++) tax.sheet(0, 8, -1);
        tax.undo();
        Due.is("36 undo takes none back", 50, tax.status(6));
        Due.is("36 undo takes none back", 150, tax.status(-1));
        Due.is("36 a fault is no finding", -1, tax.town());
        Due.is("36 a fault is no finding", 150, tax.status(-1));
        Due.is("36 each by itself", 0, tax.status(1) + tax.status(2) + tax.status(3) + tax.status(4) + tax.status(5));
    }
}
