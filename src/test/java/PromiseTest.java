/** Each promise of the document by hand: ordinary inputs, the edges that it names, wrong inputs. */
public final class PromiseTest {
    private static final int FAR = Integer.MAX_VALUE;
    private static final int DEEP = Integer.MIN_VALUE;

    public static void main(String[] args) {
        promise1();
        promises2And3();
        promise4();
        promise5();
        promise6();
        promise7();
        promise8();
        promise9();
        promise10();
        promise11();
        promise11Lines();
        promise12();
        promise13();
        promise13Neighbours();
        promise14();
        promise15();
        promise16();
        promise17();
        promise17Parts();
        promise18();
        promise19();
        promise20();
        promise21();
        promise22();
        promise23();
        promise23Rounding();
        promise24();
        promise25();
        promise26();
        promise26Faults();
        promise26Houses();
        promise27();
        promise28();
        promise29();
        promise30();
        promise31();
        promises32To34();
        promise33Sights();
        promise35();
        promise36();
        Due.finish();
    }

    /** A town by its text. */
    private static CornerTax town(String text) {
        CornerTax tax = new CornerTax();
        Due.holds("a right text: " + text, Due.told(tax, text) > 0);
        return tax;
    }

    private static void promise1() {
        CornerTax tax = new CornerTax();
        for (int s = 0; s < 64; s++) Due.is("1 at", 0, tax.at(s));
        for (int k = 0; k <= 5; k++) Due.is("1 count", 0, tax.count(k));
        for (int k = -1; k <= 6; k++) Due.is("1 status", 0, tax.status(k));
        Due.is("1 wipe", 0, tax.wipe());
        Due.is("1 tear", 0, tax.tear());
        Due.is("1 undo", Due.NONE, tax.undo());
        Due.is("1 of", Due.BEYOND, tax.of(0, 0));
        for (int s = 0; s < 4; s++) Due.is("1 sheets", Due.MISSING, tax.write(s, 0, 0));
        CornerTax other = new CornerTax();
        other.square(0, 1);
        Due.is("1 objects stand alone", 0, tax.at(0));
    }

    private static void promises2And3() {
        CornerTax tax = new CornerTax();
        for (int v = 1; v <= 3; v++) Due.is("2 what it was", v - 1, tax.square(63, v));
        Due.is("2 no such house yet", Due.BEYOND, tax.square(63, 10));
        tax.house(0, 1);
        Due.is("2 of a house", 3, tax.square(63, 10));
        Due.is("3 of a house", 10, tax.at(63));
        Due.is("2 ground again", 10, tax.square(63, 0));
        Due.is("3 ground again", 0, tax.at(63));
        for (int v : new int[] {-1, 4, 9, 11, 16, FAR, DEEP}) {
            Due.is("2 v " + v, Due.BEYOND, tax.square(5, v));
            Due.is("2 changes nothing", 0, tax.at(5));
        }
        for (int s : new int[] {-1, 64, FAR, DEEP}) {
            Due.is("2 square " + s, Due.BEYOND, tax.square(s, 0));
            Due.is("3 square " + s, Due.BEYOND, tax.at(s));
        }
        Due.is("2 its neighbour is as it was", 0, tax.at(62));
    }

    private static void promise4() {
        CornerTax tax = new CornerTax();
        for (int kind : new int[] {-1, 6, FAR}) Due.is("4 kind", Due.BEYOND, tax.house(kind, 5));
        for (int rate : new int[] {0, 100, DEEP}) Due.is("4 rate", Due.BEYOND, tax.house(0, rate));
        Due.is("4 nothing came", 0, tax.count(0));
        for (int h = 0; h < 6; h++) Due.is("4 its number", h, tax.house(h, h == 0 ? 1 : 99));
        Due.is("4 a new house has no squares", 0, tax.of(5, 3));
        Due.is("4 nor wealth", 0, tax.of(5, 2));
        Due.is("4 nor does it owe", 0, tax.of(5, 7));
        Due.is("4 full", Due.FULL, tax.house(0, 1));
        Due.is("4 beyond is asked first", Due.BEYOND, tax.house(6, 1));
        Due.is("4 still six", 6, tax.count(0));
    }

    private static void promise5() {
        CornerTax tax = town("street 0 to 7;outward 7 on 16 17 25;rich 0 33");
        tax.round(0, 18);
        int[] answers = {1, 7, 33, 3, 6, 1};
        for (int k = 0; k < answers.length; k++) Due.is("5 what " + k, answers[k], tax.of(0, k));
        Due.is("5 tax is rate times counts", 7 * countsOf(tax, 0), tax.of(0, 6));
        Due.holds("5 there is a tax", tax.of(0, 6) > 0);
        Due.is("5 owed", 0, tax.of(0, 7));
        int due = tax.of(0, 6);
        tax.set(0, 2, 3);
        tax.years(1);
        Due.is("5 owed then", due - 3, tax.of(0, 7));
        tax.years(2);
        Due.is("5 all that it owed so far", 3 * due - 3, tax.of(0, 7));
        tax.square(16, 0);
        tax.square(17, 0);
        tax.square(25, 0);
        Due.is("5 rounded yet no corner", 1, tax.of(0, 5));
        Due.is("5 no corners", 0, tax.of(0, 4));
        for (int what : new int[] {-1, 8, FAR}) Due.is("5 what", Due.BEYOND, tax.of(0, what));
        for (int house : new int[] {-1, 1, 6, FAR}) Due.is("5 house", Due.BEYOND, tax.of(house, 0));
    }

    private static int countsOf(CornerTax tax, int house) {
        int sum = 0;
        for (int p = 0; p <= 80; p++) sum += tax.counts(house, p);
        return sum;
    }

    private static void promise6() {
        CornerTax tax = new CornerTax();
        tax.house(0, 5);
        Due.is("6 rate", 5, tax.set(0, 1, 99));
        Due.is("6 rate", 99, tax.set(0, 1, 1));
        Due.is("6 rate", 1, tax.of(0, 1));
        Due.is("6 wealth", 0, tax.set(0, 2, 9999));
        Due.is("6 wealth", 9999, tax.set(0, 2, 0));
        Due.is("6 wealth", 0, tax.of(0, 2));
        int[][] wrong = {{0, 1, 0}, {0, 1, 100}, {0, 2, -1}, {0, 2, 10000}, {0, 0, 1}, {0, 3, 1}, {1, 1, 1}, {-1, 2, 1}};
        for (int[] w : wrong) Due.is("6 beyond", Due.BEYOND, tax.set(w[0], w[1], w[2]));
        Due.is("6 changes nothing", 1, tax.of(0, 1));
        Due.is("6 changes nothing", 0, tax.of(0, 2));
    }

    private static void promise7() {
        CornerTax tax = town("street 63;law 1 on 0");
        Due.is("7 what it was", 0, tax.turn(0, 1));
        Due.is("7 what it is", 1, tax.of(0, 0));
        Due.is("7 tax follows", 6, tax.of(0, 6));
        Due.is("7 again the same", 1, tax.turn(0, 1));
        Due.is("7 what it was", 1, tax.turn(0, 5));
        Due.is("7 tax follows", 0, tax.of(0, 6));
        Due.is("7 kind", Due.BEYOND, tax.turn(0, 6));
        Due.is("7 kind", Due.BEYOND, tax.turn(0, -1));
        Due.is("7 house", Due.BEYOND, tax.turn(1, 0));
        Due.is("7 changes nothing", 5, tax.of(0, 0));
    }

    private static void promise8() {
        CornerTax tax = new CornerTax();
        String[] above = {"0", "10", "20", "310", "420", "5310"};
        for (int kind = 0; kind < 6; kind++) {
            tax.house(kind, 11 + kind);
            for (int as = 0; as < 6; as++) {
                int want = above[kind].indexOf('0' + as) >= 0 ? 11 + kind : Due.KIND;
                Due.is("8 kind " + kind + " as " + as, want, tax.as(kind, as));
            }
        }
        tax.turn(0, 4);
        Due.is("8 follows turn", 11, tax.as(0, 2));
        Due.is("8 kind", Due.BEYOND, tax.as(0, 6));
        Due.is("8 kind", Due.BEYOND, tax.as(0, -1));
        Due.is("8 house", Due.BEYOND, tax.as(6, 0));
        Due.is("8 house", Due.BEYOND, tax.as(-1, 9));
    }

    private static void promise9() {
        // Every way in which the four squares at point 40 (row 4, column 4) can be of the house.
        int[] squares = {27, 28, 35, 36};
        int[] shapes = {0, 1, 1, 0, 1, 0, 2, 3, 1, 2, 0, 3, 0, 3, 3, 0};
        for (int set = 0; set < 16; set++) {
            CornerTax tax = new CornerTax();
            tax.house(0, 1);
            tax.house(0, 1);
            for (int k = 0; k < 4; k++) tax.square(squares[k], (set >> k & 1) == 1 ? 11 : 10);
            Due.is("9 set " + set, shapes[set], tax.corner(1, 40));
            Due.is("9 the others' set " + set, shapes[15 - set], tax.corner(0, 40));
        }
        CornerTax tax = town("law 1 on 0 7 56 63;law 1 on 3 4");
        int[] out = {0, 1, 9, 10, 7, 8, 16, 17, 63, 64, 72, 73, 70, 71, 79, 80};
        for (int p : out) Due.is("9 at the edge " + p, 1, tax.corner(0, p));
        Due.is("9 all", 16, tax.of(0, 4));
        Due.is("9 two side by side at the edge", 0, tax.corner(1, 4));
        for (int p : new int[] {-1, 81, FAR}) Due.is("9 point", Due.BEYOND, tax.corner(0, p));
        Due.is("9 house", Due.BEYOND, tax.corner(2, 0));
        Due.is("9 house", Due.BEYOND, tax.corner(-1, 0));
    }

    private static void promise10() {
        CornerTax tax = town("law 1 on 0 9;law 1");
        int[] corners = {0, 1, 9, 10, 11, 19, 20};
        for (int i = 0; i < corners.length; i++) Due.is("10 ith " + i, corners[i], tax.ith(0, i));
        for (int i : new int[] {7, 80, 81, FAR}) Due.is("10 none", Due.NONE, tax.ith(0, i));
        Due.is("10 none at all", Due.NONE, tax.ith(1, 0));
        Due.is("10 i", Due.BEYOND, tax.ith(0, -1));
        Due.is("10 house", Due.BEYOND, tax.ith(2, 0));
        Due.is("10 house", Due.BEYOND, tax.ith(-1, 0));
    }

    private static void promise11() {
        CornerTax tax = town("street 0 63;tree 1 8");
        Due.is("11 between two trees, through a point alone", 1, tax.sees(0, 20));
        tax.square(9, 2);
        Due.is("11 a shed in the way", 0, tax.sees(0, 20));
        Due.is("11 in front of it", 1, tax.sees(0, 10));
        tax.square(9, 1);
        Due.is("11 a street isn't in the way", 1, tax.sees(0, 20));
        tax.house(0, 1);
        tax.square(9, 10);
        Due.is("11 a house is", 0, tax.sees(0, 20));
        Due.is("11 other side", 1, tax.sees(63, 20));
        Due.is("11 no street", Due.STATE, tax.sees(1, 0));
        Due.is("11 no street", Due.STATE, tax.sees(10, 0));
        Due.is("11 beyond is asked first", Due.BEYOND, tax.sees(1, 81));
        for (int s : new int[] {-1, 64, DEEP}) Due.is("11 square", Due.BEYOND, tax.sees(s, 0));
        for (int p : new int[] {-1, 81, DEEP}) Due.is("11 point", Due.BEYOND, tax.sees(0, p));
        for (int p : new int[] {0, 1, 9, 10}) Due.is("11 its own points", 1, tax.sees(0, p));
    }

    /** Every line of an empty town with one tree anywhere, by times instead of steps. */
    private static void promise11Lines() {
        for (int s = 0; s < 64; s++) {
            for (int tree = 0; tree < 64; tree++) {
                if (tree != s) {
                    linesPast(s, tree);
                }
            }
        }
    }

    private static void linesPast(int s, int tree) {
        CornerTax tax = new CornerTax();
        tax.square(s, 1);
        tax.square(tree, 3);
        for (int p = 0; p <= 80; p++) {
            boolean free = !Model.meets(s, p, tree / 8, tree % 8);
            Due.is("11 from " + s + " to " + p + " past " + tree, free ? 1 : 0, tax.sees(s, p));
        }
    }

    private static void promise12() {
        CornerTax tax = new CornerTax();
        Due.is("12 no street", 0, tax.seen(40));
        for (int s = 0; s < 64; s++) {
            tax.square(s, 1);
            Due.is("12 streets alone", s + 1, tax.seen(40));
        }
        tax.square(0, 2);
        Due.is("12 a shed in a far nook is no street", 63, tax.seen(40));
        tax.square(27, 2);
        Due.holds("12 a shed at the point", tax.seen(40) < 62);
        tax.square(28, 2);
        tax.square(35, 3);
        tax.square(36, 3);
        Due.is("12 shut in", 0, tax.seen(40));
        tax.square(36, 0);
        Due.holds("12 open to ground", tax.seen(40) > 0);
        Due.is("12 point", Due.BEYOND, tax.seen(81));
        Due.is("12 point", Due.BEYOND, tax.seen(-1));
    }

    private static void promise13() {
        // House 0 alone: its point 30 is OUT, 40 is IN.
        int[] five = {1, 2, 1, 3, 2, 1};
        int[] four = {1, 2, 1, 2, 2, 0};
        int[] inFive = {1, 1, 1, 2, 2, 0};
        int[] inFour = {1, 1, 1, 1, 2, 0};
        for (int kind = 0; kind < 6; kind++) {
            CornerTax tax = town("street 0 to 4;law 1 on 27 28 36");
            tax.turn(0, kind);
            Due.is("13 out, five see it, kind " + kind, five[kind], tax.counts(0, 30));
            tax.square(4, 0);
            Due.is("13 out, four see it, kind " + kind, four[kind], tax.counts(0, 30));
            Due.is("13 in, unseen, kind " + kind, 0, tax.counts(0, 40));
            Due.is("13 no corner, kind " + kind, 0, tax.counts(0, 31));
            Due.told(tax, "ground 0 to 4;street 56 to 59");
            Due.is("13 four see it", 4, tax.seen(40));
            Due.is("13 in, four see it, kind " + kind, inFour[kind], tax.counts(0, 40));
            Due.told(tax, "street 48");
            Due.is("13 five see it", 5, tax.seen(40));
            Due.is("13 in, five see it, kind " + kind, inFive[kind], tax.counts(0, 40));
            tax.round(0, 40);
            Due.is("13 rounded, kind " + kind, 0, tax.counts(0, 40));
        }
        CornerTax tax = town("street 1;outward 1 on 0 9");
        Due.is("13 crossed", 2, tax.corner(0, 10));
        Due.is("13 crossed counts as law", 1, tax.counts(0, 10));
        Due.is("13 house", Due.BEYOND, tax.counts(1, 0));
        Due.is("13 house", Due.BEYOND, tax.counts(-1, 0));
        Due.is("13 point", Due.BEYOND, tax.counts(0, 81));
        Due.is("13 point", Due.BEYOND, tax.counts(0, -1));
    }

    private static void promise13Neighbours() {
        // Houses 0, 1 and 2 side by side: 0 and 1 meet at points 30 and 39, 1 and 2 at 31 and 40.
        CornerTax tax = town("street 0 to 7;street 56 to 63;law 1 on 26;law 1 on 27;law 1 on 28");
        for (int kind = 0; kind < 6; kind++) {
            boolean shares = kind == 2 || kind == 4;
            for (int h = 0; h < 3; h++) tax.turn(h, kind);
            int full = tax.counts(0, 30);
            Due.is("13 the lesser has none ahead, kind " + kind, tax.counts(0, 29), full);
            Due.is("13 the greater, kind " + kind, shares ? 0 : full, tax.counts(1, 30));
            Due.is("13 the lesser of the others, kind " + kind, full, tax.counts(1, 31));
            Due.is("13 the greatest, kind " + kind, shares ? 0 : full, tax.counts(2, 40));
        }
        tax.turn(1, 2);
        tax.round(0, 30);
        Due.is("13 a rounded corner is a corner there yet", 0, tax.counts(1, 30));
    }

    private static void promise14() {
        CornerTax tax = town("law 1 on 27;law 1 on 28;law 1 on 35;law 1 on 36;law 1 on 0;law 1 on 8");
        Due.is("14 four of them", 15, tax.whose(40));
        Due.is("14 two of them", 48, tax.whose(9));
        Due.is("14 one", 16, tax.whose(0));
        Due.is("14 none", 0, tax.whose(80));
        tax.square(28, 10);
        Due.is("14 two side by side are no corner", 12, tax.whose(40));
        Due.is("14 point", Due.BEYOND, tax.whose(81));
        Due.is("14 point", Due.BEYOND, tax.whose(-1));
    }

    private static void promise15() {
        CornerTax tax = town("street 32 to 63;tree 0 2 4 6;law 5 on 1 3 5;rich 0 10");
        int corners = tax.of(0, 4);
        Due.is("15 twelve corners", 12, corners);
        int due = tax.of(0, 6);
        Due.is("15 those below are seen", 30, due);
        for (int p = 10; p <= 15; p++) {
            due -= 5;
            Due.is("15 tax then", due, tax.round(0, p));
        }
        Due.is("15 unseen ones, too", due, tax.round(0, 1));
        Due.is("15 no corner", Due.NONE, tax.round(0, 40));
        Due.is("15 is rounded", Due.STATE, tax.round(0, 10));
        Due.is("15 the eighth", due, tax.round(0, 2));
        Due.is("15 full", Due.FULL, tax.round(0, 3));
        Due.is("15 rounded is asked ahead of full", Due.STATE, tax.round(0, 2));
        Due.is("15 no corner is asked ahead of full", Due.NONE, tax.round(0, 40));
        Due.is("15 wealth stays", 10, tax.of(0, 2));
        tax.square(1, 0);
        Due.is("15 no corner is asked ahead of rounded", Due.NONE, tax.round(0, 10));
        Due.is("15 rounded stay so", 8, tax.of(0, 5));
        tax.square(1, 10);
        Due.is("15 and are so when it is built again", Due.STATE, tax.round(0, 10));
        Due.is("15 point", Due.BEYOND, tax.round(0, 81));
        Due.is("15 point", Due.BEYOND, tax.round(0, -1));
        Due.is("15 house", Due.BEYOND, tax.round(1, 10));
        Due.is("15 house", Due.BEYOND, tax.round(-1, 10));
    }

    private static void promise16() {
        CornerTax tax = town("street 32 to 63;tree 0 2 4 6;law 1 on 1 3 5");
        int[][] yearsByRate = {{1, 40}, {3, 14}, {7, 6}, {13, 4}, {19, 3}, {20, 2}, {39, 2}, {40, 1}, {41, 1}, {99, 1}};
        for (int[] y : yearsByRate) {
            tax.set(0, 1, y[0]);
            Due.is("16 rate " + y[0], y[1], tax.pays(0, 10));
        }
        tax.set(0, 1, 10);
        tax.turn(0, 1);
        Due.is("16 counts twice", 2, tax.pays(0, 10));
        Due.is("16 never: unseen", Due.NONE, tax.pays(0, 1));
        Due.is("16 no corner", Due.NONE, tax.pays(0, 40));
        Due.is("16 nothing is rounded by it", 0, tax.of(0, 5));
        for (int p = 1; p <= 6; p++) tax.round(0, p);
        tax.round(0, 10);
        tax.round(0, 11);
        Due.is("16 eight are", 8, tax.of(0, 5));
        Due.is("16 also with eight", 2, tax.pays(0, 12));
        Due.is("16 is rounded", Due.NONE, tax.pays(0, 10));
        Due.is("16 point", Due.BEYOND, tax.pays(0, 81));
        Due.is("16 point", Due.BEYOND, tax.pays(0, -1));
        Due.is("16 house", Due.BEYOND, tax.pays(1, 10));
        Due.is("16 house", Due.BEYOND, tax.pays(-1, 10));
    }

    private static void promise17() {
        CornerTax tax = town("street 63;law 1 on 0 1 8 9");
        Due.is("17 before the corner", 36, tax.shed(0));
        Due.is("17 nothing is built", 0, tax.at(36));
        tax.square(36, 1);
        Due.holds("17 on ground alone", tax.shed(0) != 36);
        Due.is("17 no house", Due.BEYOND, tax.shed(1));
        Due.is("17 no house", Due.BEYOND, tax.shed(-1));
        CornerTax none = town("law 1 on 0");
        Due.is("17 nothing seen", Due.NONE, none.shed(0));
        Due.told(none, "street 9;tree 1 8");
        Due.is("17 it is seen", 1, none.of(0, 6));
        Due.is("17 no ground is in the way", Due.NONE, none.shed(0));
        // The street in row 7 sees the house in row 0 through column 0 alone: each of the grounds hides as much.
        CornerTax lane = town("tree 1 to 63;ground 8 16 24 32 40 48;street 56;law 1 on 0");
        Due.is("17 of several the least", 8, lane.shed(0));
        lane.square(8, 3);
        Due.is("17 nothing to hide any more", Due.NONE, lane.shed(0));
    }

    private static void promise17Parts() {
        CornerTax nook = town("tree 2 to 63;street 8;law 1 on 1");
        Due.is("17 two corners are seen", 2, nook.of(0, 6));
        Due.is("17 square 0, to hide a single one", 0, nook.shed(0));
        // Two streets of one lane: what lies between them hides from one alone.
        CornerTax lane = town("tree 1 to 63;ground 8 16 32 40 48;street 24 56;law 1 on 0");
        Due.is("17 it must hide from both", 8, lane.shed(0));
        CornerTax far = town("tree 1 to 63;ground 48;street 8 16 24 32 40 56;dear 1 on 0");
        Due.is("17 five are left", Due.NONE, far.shed(0));
        Due.told(far, "street 48;ground 32");
        Due.is("17 fewer than five are left", 32, far.shed(0));
        CornerTax top = town("tree 8 to 63;street 0;ground 1 2;law 1 on 3");
        Due.is("17 from the street on square 0", 1, top.shed(0));
    }

    private static void promise18() {
        CornerTax tax = new CornerTax();
        int[] corners = {4, 4, 4, 4, 6, 4, 6, 4, 4, 6, 6, 4};
        int[] sets = {1, 3, 7, 15, 31, 119, 127, 255, 1911, 1023, 2047, 4095};
        for (int n = 1; n <= 12; n++) {
            Due.is("18 set for " + n, sets[n - 1], tax.plot(n, 1));
            Due.is("18 corners for " + n, corners[n - 1], tax.plot(n, 0));
            Due.is("18 once more for " + n, sets[n - 1], tax.plot(n, 1));
        }
        for (int n : new int[] {0, 13, -1, FAR, DEEP}) Due.is("18 n", Due.BEYOND, tax.plot(n, 0));
        for (int what : new int[] {-1, 2, FAR}) Due.is("18 what", Due.BEYOND, tax.plot(3, what));
    }

    private static void promise19() {
        CornerTax tax = town("street 0 7 56 63;law 1 on 27;law 1");
        // Each street at a far corner sees three of the four corners of the house in the middle.
        Due.is("19 how many", 2, tax.spots(-1));
        Due.is("19 the first", 0, tax.spots(0));
        Due.is("19 the second sees what is left", 7, tax.spots(1));
        Due.is("19 none behind", Due.NONE, tax.spots(2));
        Due.is("19 none behind", Due.NONE, tax.spots(63));
        tax.round(0, 30);
        tax.round(0, 40);
        Due.is("19 rounded or not", 2, tax.spots(-1));
        tax.square(0, 0);
        Due.is("19 follows the squares", 7, tax.spots(0));
        tax.square(27, 0);
        Due.is("19 no corners", 0, tax.spots(-1));
        tax.square(27, 11);
        Due.is("19 of any house", 2, tax.spots(-1));
        Due.is("19 what", Due.BEYOND, tax.spots(-2));
        Due.is("19 what", Due.BEYOND, tax.spots(64));
        CornerTax last = town("street 62;law 1 on 63");
        Due.is("19 points at the far edge", 1, last.spots(-1));
        Due.is("19 points at the far edge", 62, last.spots(0));
        CornerTax row = town("tree 48 to 55;street 56 63;law 1 on 59 60");
        Due.is("19 one from each side", 2, row.spots(-1));
        Due.is("19 of several the least", 56, row.spots(0));
        Due.is("19 then the other", 63, row.spots(1));
        Due.told(row, "ground 59 60");
        Due.is("19 no corners any more", 0, row.spots(-1));
        CornerTax top = town("street 0;tree 8 to 15;law 1 on 3");
        Due.is("19 from square 0 alone", 1, top.spots(-1));
        Due.is("19 from square 0 alone", 0, top.spots(0));
    }

    private static void promise20() {
        CornerTax tax = new CornerTax();
        Due.is("20 no houses", 0, tax.yields());
        tax = town("street 0 to 7;street 56 to 63;law 3 on 26;outward 5 on 28;free 99");
        Due.is("20 all together", tax.of(0, 6) + tax.of(1, 6), tax.yields());
        Due.is("20 all together", 3 * 4 + 5 * 8, tax.yields());
        tax.round(1, 31);
        Due.is("20 less by a rounded one", 3 * 4 + 5 * 6, tax.yields());
    }

    private static void promise21() {
        CornerTax tax = town("street 0 to 7;street 56 to 63;law 3 on 26;outward 5 on 28");
        // They count 12 together.
        int[][] rates = {{0, 1}, {1, 1}, {12, 1}, {13, 2}, {24, 2}, {25, 3}, {1188, 99}, {1189, Due.NONE},
            {FAR, Due.NONE}, {-1, Due.BEYOND}, {DEEP, Due.BEYOND}};
        for (int[] r : rates) Due.is("21 n " + r[0], r[1], tax.rateFor(r[0]));
        Due.is("21 rates stay", 3, tax.of(0, 1));
        CornerTax none = new CornerTax();
        Due.is("21 no houses, 0", 1, none.rateFor(0));
        Due.is("21 no houses, 1", Due.NONE, none.rateFor(1));
    }

    private static void promise22() {
        CornerTax tax = new CornerTax();
        Due.is("22 no houses", Due.NONE, tax.neighbours());
        tax = town("law 1 on 0;law 1 on 2;law 1 on 63");
        Due.is("22 no points in common", Due.NONE, tax.neighbours());
        tax.square(11, 12);
        Due.is("22 one point", 12, tax.neighbours());
        tax.square(9, 11);
        Due.is("22 of several the least", 1, tax.neighbours());
        tax.square(10, 12);
        Due.is("22 most", 12, tax.neighbours());
        CornerTax six = town("law 1;law 1;law 1;law 1;law 1 on 36;law 1 on 37");
        Due.is("22 the last two", 45, six.neighbours());
    }

    private static void promise23() {
        CornerTax tax = town("street 32 to 63;tree 0 2 4 6;law 5 on 1;law 7 on 5;rich 0 12;rich 1 20");
        // Each is seen at two corners: 10 and 14 a year.
        Due.is("23 first", 24, tax.years(1));
        Due.is("23 what is left", 2, tax.of(0, 2));
        Due.is("23 what is left", 6, tax.of(1, 2));
        Due.is("23 as far as it goes", 8, tax.years(3));
        Due.is("23 owed", 28, tax.of(0, 7));
        Due.is("23 owed", 36, tax.of(1, 7));
        Due.is("23 nothing left", 0, tax.years(20));
        Due.is("23 owed", 228, tax.of(0, 7));
        for (int n : new int[] {0, 21, -1, FAR, DEEP}) Due.is("23 n", Due.BEYOND, tax.years(n));
        Due.is("23 no houses", 0, new CornerTax().years(20));
    }

    private static void promise23Rounding() {
        CornerTax tax = town("street 32 to 63;tree 0 3;outward 1 on 1 2 10;rich 0 43");
        // Points 10, 20 and 21 are OUT, 11 is IN: what counts most comes first, of several the least.
        Due.is("23 rounding: a year's tax", 7, tax.of(0, 6));
        Due.is("23 paid", 7, tax.years(1));
        Due.is("23 36 is too little", 0, tax.of(0, 5));
        tax.set(0, 2, 47);
        Due.is("23 paid", 7, tax.years(1));
        Due.is("23 40 is enough", 1, tax.of(0, 5));
        Due.is("23 for 40", 0, tax.of(0, 2));
        Due.is("23 which", 0, tax.counts(0, 10));
        Due.is("23 the others yet", 2, tax.counts(0, 20));
        tax.set(0, 2, 9999);
        Due.is("23 one a year", 5 + 3 + 1, tax.years(3));
        Due.is("23 all that count", 4, tax.of(0, 5));
        Due.is("23 none is rounded in vain", 0, tax.years(20));
        Due.is("23 wealth stays then", 9999 - 9 - 3 * 40, tax.of(0, 2));
        CornerTax many = town("street 32 to 63;law 1 on 1 3 5 7;law 1 on 17;rich 0 9999");
        for (int p = 1; p <= 8; p++) many.round(0, p);
        Due.holds("23 there is more to round", many.of(0, 6) > 0);
        many.years(5);
        Due.is("23 eight at most", 8, many.of(0, 5));
        Due.is("23 it pays on", 9999 - 5 * many.of(0, 6), many.of(0, 2));
    }

    private static void promise24() {
        CornerTax tax = new CornerTax();
        for (int n : new int[] {0, 5, -1, FAR}) Due.is("24 n", Due.BEYOND, tax.feed(0, n));
        Due.is("24 one", 1, tax.feed('s', 1));
        Due.is("24 the lowest ones, the highest first", 3, tax.feed(0x78780000 | 't' << 8 | 'r', 2));
        Due.is("24 three", 6, tax.feed('e' << 16 | 'e' << 8 | 't', 3));
        Due.is("24 four", 10, tax.feed(' ' << 24 | '1' << 16 | '2' << 8 | ' ', 4));
        Due.is("24 they are read as fed", 1, tax.town());
        Due.is("24 they are read as fed", 1, tax.at(12));
        for (int k = 1; k <= 29; k++) Due.is("24 four more", 4 * k, tax.feed(-1, 4));
        Due.is("24 three more", 119, tax.feed(0, 3));
        Due.is("24 no two more", Due.FULL, tax.feed(0, 2));
        Due.is("24 n is asked ahead of full", Due.BEYOND, tax.feed(0, 5));
        Due.is("24 none came", 119, tax.count(4));
        Due.is("24 one more", 120, tax.feed(0, 1));
        Due.is("24 full", Due.FULL, tax.feed(0, 1));
    }

    private static void promise25() {
        CornerTax tax = new CornerTax();
        Due.is("25 empty", 0, tax.wipe());
        Due.feed(tax, "tree 1 ");
        Due.is("25 seven", 7, tax.wipe());
        Due.is("25 empty then", 0, tax.count(4));
        Due.is("25 nothing of it is left", 1, Due.told(tax, "shed 5"));
        Due.is("25 nothing of it is left", 0, tax.at(1));
    }

    private static void promise26() {
        CornerTax tax = new CornerTax();
        Due.is("26 items", 5, Due.told(tax, "street 0 2 5 to 7;shed10;tree 11  ; ground 6;street 63"));
        Due.is("26 the tape is empty then", 0, tax.count(4));
        int[] streets = {0, 2, 5, 7, 63};
        for (int s : streets) Due.is("26 street " + s, 1, tax.at(s));
        Due.is("26 streets", 5, tax.count(1));
        Due.is("26 a later item", 0, tax.at(6));
        Due.is("26 shed", 2, tax.at(10));
        Due.is("26 tree", 3, tax.at(11));
        Due.is("26 blanks about", 1, Due.told(tax, "  tree 0   to   003  "));
        Due.is("26 up to this one", 3, tax.at(3));
        Due.is("26 no farther", 0, tax.at(4));
        Due.is("26 tokens without blanks", 2, Due.told(tax, "street8to9;law7on20 21to23"));
        Due.is("26 of the house", 4, tax.of(0, 3));
        Due.is("26 its rate", 7, tax.of(0, 1));
        Due.is("26 behind last to last", 1, Due.told(tax, "tree 62 to 63"));
    }

    private static void fault(String text, int place) {
        CornerTax tax = town("law 9 on 0 1 2;rich 0 77;street 60");
        Due.is("26 fault of '" + text + "'", -1 - place, Due.told(tax, text));
        Due.is("26 the tape is empty then", 0, tax.count(4));
        Due.is("26 no finding", 0, tax.status(-1));
        Due.is("26 houses stay", 1, tax.count(0));
        Due.is("26 wealth stays", 77, tax.of(0, 2));
        Due.is("26 squares stay", 3, tax.of(0, 3));
        Due.is("26 streets stay", 1, tax.count(1));
        Due.is("26 trees stay", 0, tax.count(3));
        Due.is("26 sheds stay", 0, tax.count(2));
    }

    private static void promise26Faults() {
        fault("", 0);
        fault("   ", 3);
        fault(";", 0);
        fault("tree", 4);
        fault("tree  ", 6);
        fault("tree 5;", 7);
        fault("tree 5; ", 8);
        fault("tree 5;;tree 6", 7);
        fault("tree 5 tree 6", 7);
        fault("tree 64", 5);
        fault("tree 63 64", 8);
        fault("tree 5 5", 7);
        fault("tree 5 4", 7);
        fault("tree 5 to", 9);
        fault("tree 5 to 5", 10);
        fault("tree 5 to 64", 10);
        fault("tree 63 to 63", 11);
        fault("tree 5 to to", 10);
        fault("tree 5 to 7 9", 12);
        fault("tree to 7", 5);
        fault("tree 10000", 5);
        fault("trees 5", 0);
        fault("tre 5", 0);
        fault("Tree 5", 0);
        fault("treez 5", 0);
        fault("atree 5", 0);
        fault("tree 5,6", 6);
        fault("tree 5\t6", 6);
        fault("tree -5", 5);
        fault("tree \u00e9", 5);
        fault("tree 5;shed 6;rich 0 1;law 5 on 9;street 8 8", 43);
        fault("law", 3);
        fault("law 0", 4);
        fault("law 100", 4);
        fault("law on 5", 4);
        fault("law 5 on", 8);
        fault("law 5 on;", 8);
        fault("law 5 on 2 1", 11);
        fault("law 5 to 7", 6);
        fault("law 5 6", 6);
        fault("rich", 4);
        fault("rich 1 5", 5);
        fault("rich 0", 6);
        fault("rich 0 10000", 7);
        fault("rich 0 99999999999999999999", 7);
        fault("rich 0 5 5", 9);
        fault("rich 0 on", 7);
        fault("5", 0);
        fault("on 5", 0);
        fault("to 5", 0);
    }

    private static void promise26Houses() {
        CornerTax tax = new CornerTax();
        Due.is("26 all kinds", 6, Due.told(tax, "law 1;outward 2;shared 3 on 7;dear 4;old 5 on 8 10 to 12;free 99"));
        int[] rates = {1, 2, 3, 4, 5, 99};
        for (int h = 0; h < 6; h++) {
            Due.is("26 kind", h, tax.of(h, 0));
            Due.is("26 rate", rates[h], tax.of(h, 1));
        }
        Due.is("26 squares of a house", 4, tax.of(4, 3));
        Due.is("26 a seventh: its name", -8, Due.told(tax, "tree 1;free 100"));
        Due.is("26 nothing changes", 0, tax.at(1));
        Due.is("26 a seventh, whatever comes", -1, Due.told(tax, "law"));
        CornerTax new1 = new CornerTax();
        Due.is("26 a house of the same text", 2, Due.told(new1, "law 1;rich 0 9999"));
        Due.is("26 is rich", 9999, new1.of(0, 2));
        Due.is("26 one that comes later isn't there yet", -6, Due.told(new1, "rich 1 5;law 1"));
        Due.is("26 zero", 1, Due.told(new1, "rich 0 0"));
        Due.is("26 zero", 0, new1.of(0, 2));
        Due.is("26 seven in one text", -1 - 36, Due.told(new CornerTax(), "law 1;old 1;law 1;old 1;law 1;old 1;dear 1"));
        CornerTax seen = town("law 1 on 0;street 63");
        Due.is("26 sights follow", 1, seen.seen(10));
        Due.told(seen, "tree 9 18");
        Due.is("26 sights follow", 0, seen.seen(10));
    }

    private static void promise27() {
        CornerTax tax = new CornerTax();
        for (int bits : new int[] {8, 16, 64}) {
            Due.is("27 n", 40, tax.sheet(0, bits, 40));
            Due.is("27 n", 0, tax.sheet(3, bits, 0));
        }
        tax.write(0, 39, 7);
        Due.is("27 anew", 40, tax.sheet(0, 64, 40));
        Due.is("27 all 0", 0, tax.write(0, 39, 0));
        Due.is("27 missing", 0, tax.sheet(0, 0, 40));
        Due.is("27 is missing", Due.MISSING, tax.write(0, 0, 0));
        tax.sheet(1, 8, 5);
        for (int bits : new int[] {-1, 1, 7, 32, 128}) Due.is("27 bits", Due.BEYOND, tax.sheet(1, bits, -1));
        for (int s : new int[] {-1, 4, FAR}) Due.is("27 sheet", Due.BEYOND, tax.sheet(s, 8, -1));
        for (int bits : new int[] {0, 8, 16, 64}) {
            Due.is("27 size", Due.SIZE, tax.sheet(1, bits, -1));
            Due.is("27 size", Due.SIZE, tax.sheet(1, bits, DEEP));
            Due.is("27 n", Due.BEYOND, tax.sheet(1, bits, 41));
        }
        Due.is("27 it stays", 0, tax.write(1, 4, 0));
        Due.is("27 it stays", Due.BEYOND, tax.write(1, 5, 0));
    }

    private static void promise28() {
        CornerTax tax = new CornerTax();
        tax.sheet(0, 8, 2);
        tax.sheet(1, 16, 2);
        tax.sheet(2, 64, 2);
        long[] told = {300, -129, 128, 127, 65535, 32768, Long.MIN_VALUE, Long.MAX_VALUE, -1000000001L};
        long[] was = {0, 0, 0};
        for (long v : told) {
            Due.is("28 8 bits", was[0], tax.write(0, 1, v));
            Due.is("28 16 bits", was[1], tax.write(1, 1, v));
            Due.is("28 64 bits", was[2], tax.write(2, 1, v));
            was = new long[] {(byte) v, (short) v, v};
        }
        Due.is("28 a number like a finding is none", -1000000001L, tax.write(2, 1, 0));
        Due.is("28 no findings", 0, tax.status(-1));
        Due.is("28 the other number", 0, tax.write(2, 0, 0));
        Due.is("28 sheet", Due.BEYOND, tax.write(4, 0, 0));
        Due.is("28 sheet", Due.BEYOND, tax.write(-1, 0, 0));
        Due.is("28 missing is asked ahead of the number", Due.MISSING, tax.write(3, 99, 0));
        Due.is("28 number", Due.BEYOND, tax.write(0, 2, 0));
        Due.is("28 number", Due.BEYOND, tax.write(0, -1, 0));
        Due.is("28 number", Due.BEYOND, tax.write(0, FAR, 0));
    }

    private static void numbers(CornerTax tax, int s, long... want) {
        for (int i = 0; i < want.length; i++) {
            long got = tax.write(s, i, 0);
            tax.write(s, i, got);
            Due.is("number " + i + " of sheet " + s, want[i], got);
        }
    }

    private static void promise29() {
        CornerTax tax = new CornerTax();
        tax.sheet(0, 16, 5);
        tax.sheet(1, 16, 3);
        tax.sheet(2, 64, 5);
        for (int i = 0; i < 5; i++) tax.write(0, i, 100 + i);
        Due.is("29 n", 2, tax.copy(0, 3, 1, 1, 2));
        numbers(tax, 1, 0, 103, 104);
        Due.is("29 within one, forth", 4, tax.copy(0, 0, 0, 1, 4));
        numbers(tax, 0, 100, 100, 101, 102, 103);
        Due.is("29 within one, back", 4, tax.copy(0, 1, 0, 0, 4));
        numbers(tax, 0, 100, 101, 102, 103, 103);
        Due.is("29 none", 0, tax.copy(0, 5, 1, 3, 0));
        Due.is("29 all", 3, tax.copy(0, 0, 1, 0, 3));
        int[][] beyond = {{0, 3, 1, 0, 3}, {0, 0, 1, 1, 3}, {0, -1, 1, 0, 1}, {0, 0, 1, -1, 1}, {0, 0, 1, 0, -1},
            {0, FAR, 1, 0, 1}, {0, 0, 1, FAR, 1}, {0, 1, 1, 1, FAR}, {0, FAR, 1, FAR, FAR}, {0, DEEP, 1, 0, DEEP},
            {4, 0, 1, 0, 1}, {0, 0, 4, 0, 1}, {-1, 0, 3, 0, 1}, {3, 0, -1, 0, 1}, {0, 6, 1, 0, 0}};
        for (int[] b : beyond) Due.is("29 beyond", Due.BEYOND, tax.copy(b[0], b[1], b[2], b[3], b[4]));
        numbers(tax, 1, 100, 101, 102);
        Due.is("29 missing", Due.MISSING, tax.copy(3, 0, 0, 0, 1));
        Due.is("29 missing", Due.MISSING, tax.copy(0, 0, 3, 0, -1));
        Due.is("29 kind", Due.KIND, tax.copy(0, 0, 2, 0, 1));
        Due.is("29 kind is asked ahead", Due.KIND, tax.copy(0, 0, 2, 0, -1));
    }

    private static void promise30() {
        CornerTax tax = new CornerTax();
        tax.house(0, 1);
        tax.sheet(0, 64, 8);
        long[] told = {1, 4, 2, 11, 3, -1, 10, 4294967297L};
        for (int i = 0; i < told.length; i++) tax.write(0, i, told[i]);
        Due.told(tax, "tree 20 to 40");
        Due.is("30 how many came", 4, tax.lays(0, 20));
        int[] then = {1, 3, 2, 3, 3, 3, 10, 3, 3};
        for (int k = 0; k < then.length; k++) Due.is("30 square " + (20 + k), then[k], tax.at(20 + k));
        Due.is("30 those behind 63 are left out", 2, tax.lays(0, 61));
        Due.is("30 62 stays", 0, tax.at(62));
        Due.is("30 63", 2, tax.at(63));
        Due.is("30 0 stays", 0, tax.at(0));
        Due.is("30 one", 1, tax.lays(0, 63));
        tax.sheet(1, 8, 0);
        Due.is("30 none", 0, tax.lays(1, 0));
        tax.sheet(1, 8, 40);
        Due.is("30 ground, up to 63", 24, tax.lays(1, 40));
        Due.is("30 ground", 0, tax.at(63));
        Due.is("30 all forty", 40, tax.lays(1, 0));
        Due.is("30 sheet", Due.BEYOND, tax.lays(4, 99));
        Due.is("30 sheet", Due.BEYOND, tax.lays(-1, 0));
        Due.is("30 missing", Due.MISSING, tax.lays(2, 99));
        Due.is("30 square", Due.BEYOND, tax.lays(0, 64));
        Due.is("30 square", Due.BEYOND, tax.lays(0, -1));
        CornerTax seen = town("law 1 on 0;street 63");
        Due.is("30 sights follow", 1, seen.seen(10));
        seen.sheet(0, 8, 1);
        seen.write(0, 0, 3);
        seen.lays(0, 54);
        Due.is("30 sights follow", 0, seen.seen(10));
    }

    private static void promise31() {
        CornerTax tax = town("law 1 on 0;law 1");
        tax.sheet(0, 8, 4);
        long[] corners = {0, 1, 9, 10};
        for (int i = 0; i < 4; i++) {
            Due.is("31 first that isn't", i == 0 ? 2 : i + 1, tax.read(0, 0));
            tax.write(0, i, corners[i]);
        }
        Due.is("31 these, all of them", 0, tax.read(0, 0));
        tax.sheet(1, 8, 5);
        tax.copy(0, 0, 1, 0, 4);
        tax.write(1, 4, 80);
        Due.is("31 one too many", 5, tax.read(1, 0));
        tax.write(1, 4, 81);
        Due.is("31 one too many", 5, tax.read(1, 0));
        tax.sheet(2, 8, 3);
        tax.copy(0, 0, 2, 0, 3);
        Due.is("31 more must come", 4, tax.read(2, 0));
        tax.sheet(2, 8, 0);
        Due.is("31 all must come", 1, tax.read(2, 0));
        Due.is("31 none must come", 0, tax.read(2, 1));
        Due.is("31 none must come", 1, tax.read(0, 1));
        tax.sheet(2, 64, 4);
        for (int i = 0; i < 4; i++) tax.write(2, i, corners[i]);
        tax.write(2, 3, 10 + (1L << 32));
        Due.is("31 by all bits", 4, tax.read(2, 0));
        Due.is("31 sheet", Due.BEYOND, tax.read(4, 9));
        Due.is("31 sheet", Due.BEYOND, tax.read(-1, 0));
        Due.is("31 missing", Due.MISSING, tax.read(3, 9));
        Due.is("31 house", Due.BEYOND, tax.read(0, 2));
        Due.is("31 house", Due.BEYOND, tax.read(0, -1));
    }

    private static void promises32To34() {
        CornerTax tax = town("street 56 to 63;law 5 on 1 3;rich 0 21");
        tax.round(0, 10);
        tax.years(2);
        int owed = tax.of(0, 7);
        Due.holds("32 it owes", owed > 0);
        tax.sheet(0, 8, 3);
        Due.feed(tax, "tree");
        Due.is("32 kept", 1, tax.image());
        tax.turn(0, 5);
        tax.set(0, 1, 50);
        tax.set(0, 2, 500);
        tax.house(3, 9);
        tax.square(9, 11);
        tax.square(60, 3);
        tax.round(0, 1);
        tax.years(3);
        tax.write(0, 1, 5);
        Due.feed(tax, " 7");
        Due.is("34 a finding", Due.BEYOND, tax.at(64));
        Due.is("33 how many houses", 1, tax.undo());
        int[] answers = {0, 5, 0, 2, 8, 1, 35, owed};
        for (int k = 0; k < 8; k++) Due.is("33 of " + k, answers[k], tax.of(0, k));
        Due.is("33 squares", 0, tax.at(9));
        Due.is("33 squares", 1, tax.at(60));
        Due.is("33 no such house", Due.BEYOND, tax.of(1, 0));
        Due.is("33 findings are not taken back", 2, tax.status(-1));
        Due.is("32 the tape isn't kept", 6, tax.count(4));
        Due.is("32 sheets aren't kept", 5, tax.write(0, 1, 0));
        tax.square(0, 3);
        Due.is("33 it stays kept", 1, tax.undo());
        Due.is("33 it stays kept", 0, tax.at(0));
        tax.square(0, 3);
        tax.image();
        tax.square(0, 2);
        tax.undo();
        Due.is("33 the latest", 3, tax.at(0));
        Due.is("33 a new house is new", 1, tax.house(2, 4));
        Due.is("33 with nothing owed", 0, tax.of(1, 7));
        Due.is("34 something was", 1, tax.tear());
        Due.is("34 nothing is", 0, tax.tear());
        Due.is("34 nothing is", Due.NONE, tax.undo());
        Due.is("34 what there is stays", 3, tax.at(0));
    }

    private static void promise33Sights() {
        CornerTax tax = town("street 63;law 1 on 0");
        tax.image();
        tax.square(54, 3);
        Due.is("33 hidden", 0, tax.seen(10));
        tax.undo();
        Due.is("33 seen again", 1, tax.seen(10));
        tax.square(63, 0);
        Due.is("33 no street", 0, tax.seen(10));
        tax.undo();
        Due.is("33 a street again", 1, tax.seen(10));
        Due.is("33 tax again", 3, tax.of(0, 6));
        tax.square(54, 3);
        tax.image();
        tax.square(54, 0);
        Due.is("33 seen", 1, tax.seen(10));
        tax.undo();
        Due.is("33 hidden again", 0, tax.seen(10));
        Due.is("33 spots, too", 0, tax.spots(-1));
    }

    private static void promise35() {
        CornerTax tax = town("street 1 to 10;shed 11 12;tree 13 to 17;law 1 on 0 21;old 2 on 63;free 1");
        Due.feed(tax, "1234567");
        int[] answers = {3, 10, 2, 5, 7, 3};
        for (int k = 0; k < answers.length; k++) Due.is("35 what " + k, answers[k], tax.count(k));
        for (int what : new int[] {-1, 6, FAR, DEEP}) Due.is("35 what", Due.BEYOND, tax.count(what));
    }

    private static void promise36() {
        CornerTax tax = town("law 1");
        tax.at(64);
        tax.feed(0, 9);
        tax.as(0, 1);
        tax.ith(0, 0);
        tax.undo();
        tax.neighbours();
        tax.sees(0, 0);
        tax.write(0, 0, 0);
        tax.sheet(0, 8, -1);
        for (int h = 1; h < 6; h++) tax.house(0, 1);
        tax.house(0, 1);
        int[] answers = {2, 1, 1, 3, 1, 1, 1};
        for (int k = 0; k < 7; k++) Due.is("36 which " + k, answers[k], tax.status(k));
        Due.is("36 all", 10, tax.status(-1));
        Due.is("36 another", Due.BEYOND, tax.status(7));
        Due.is("36 counted from then on", 3, tax.status(0));
        Due.is("36 another", Due.BEYOND, tax.status(-2));
        Due.is("36 all", 12, tax.status(-1));
        Due.told(tax, "fault");
        Due.is("36 a fault is none", 12, tax.status(-1));
    }
}
