/**
 * "Each act tells its findings in the order in which they are asked; one that answers a finding
 * changes nothing but status()." Every promise's findings, each cause just beyond what is taken and
 * far beyond it, two causes at once, and beside a twin that shows what else has changed.
 */
public final class FindingTest {
    private static final int[] FAR = {Integer.MAX_VALUE, Integer.MIN_VALUE};

    public static void main(String[] args) {
        pastsAreAsMeant();
        promises2And3();
        promise4();
        promise5();
        promise6();
        promise7();
        promise8();
        promises9And10();
        promises11And12();
        promises13And14();
        promise15();
        promise16();
        promise17();
        promises18And19();
        promises21To23();
        promise24();
        promise27();
        promise28();
        promise29();
        promise30();
        promise31();
        promise33();
        promises35And36();
        asksChangeNothing();
        Due.finish();
    }

    // ---- pasts

    private static CornerTax blank() {
        return new CornerTax();
    }

    /**
     * Something of everything: six houses of all kinds, the last of no squares; the first has eight
     * rounded; sheets of 8, 16 and 64 bits, the last is missing; 118 bytes on the tape; an image of an
     * earlier town; each finding has been told.
     */
    private static CornerTax rich() {
        CornerTax tax = new CornerTax();
        Due.told(tax, "street 56 to 63;shed 20;tree 22 24;law 5 on 1 3 5;outward 7 on 17 18 26;shared 9 on 27");
        tax.image();
        Due.told(tax, "dear 11 on 28 29;old 13 on 37;free 99;rich 0 90;rich 1 30");
        for (int i = 0; i < 8; i++) tax.round(0, tax.ith(0, i));
        tax.round(1, 28);
        tax.years(2);
        tax.sheet(0, 8, 5);
        tax.sheet(1, 16, 40);
        tax.sheet(2, 64, 0);
        for (int i = 0; i < 5; i++) tax.write(0, i, 3 * i);
        tax.write(1, 39, -7);
        tax.at(64);
        tax.house(0, 1);
        tax.as(0, 1);
        tax.ith(5, 0);
        tax.sees(0, 0);
        tax.write(3, 0, 0);
        tax.sheet(0, 8, -1);
        Due.feed(tax, "tree 8 to 12;rich 5 9999" + " ".repeat(94));
        return tax;
    }

    private static void pastsAreAsMeant() {
        CornerTax tax = rich();
        int[] counts = {6, 8, 1, 2, 118, 10};
        for (int k = 0; k < counts.length; k++) Due.is("rich: count " + k, counts[k], tax.count(k));
        Due.is("rich: eight are rounded", 8, tax.of(0, 5));
        Due.holds("rich: there are more corners", tax.of(0, 4) > 8);
        Due.is("rich: no squares", 0, tax.of(5, 3));
        Due.holds("rich: something is owed", tax.of(1, 7) > 0);
        Due.is("rich: a corner", 1, tax.corner(1, 19));
        Due.is("rich: unseen", 0, tax.seen(19));
        Due.holds("rich: seen", tax.seen(39) > 0);
        for (int k = 0; k < 7; k++) Due.holds("rich: status " + k, tax.status(k) > 0);
        Due.is("rich: a right text", 2, tax.town());
        Due.is("rich: an image", 3, tax.undo());
    }

    // ---- each cause beside a twin

    private static void beyond(String what, Twins.Call call) {
        Twins.finds(what, Due.BEYOND, FindingTest::rich, call);
    }

    private static void beyondInBlank(String what, Twins.Call call) {
        Twins.finds(what, Due.BEYOND, FindingTest::blank, call);
    }

    private static void finds(String what, int finding, Twins.Call call) {
        Twins.finds(what, finding, FindingTest::rich, call);
    }

    /** Just below the least and just above the greatest, and the ends of the ints. */
    private static int[] outside(int least, int most) {
        return new int[] {least - 1, most + 1, FAR[0], FAR[1]};
    }

    private static void promises2And3() {
        for (int s : outside(0, 63)) {
            beyond("2 BEYOND: square " + s, t -> t.square(s, 3));
            beyond("2 BEYOND: square " + s + ", of a house", t -> t.square(s, 10));
            beyond("3 BEYOND: square " + s, t -> t.at(s));
        }
        for (int v : new int[] {-1, 4, 5, 9, 16, 17, FAR[0], FAR[1]}) {
            beyond("2 BEYOND: v " + v, t -> t.square(0, v));
            beyond("2 BEYOND: v " + v + " and square", t -> t.square(64, v));
        }
        for (int v = 10; v <= 16; v++) {
            int house = v;
            beyondInBlank("2 BEYOND: no such house " + v, t -> t.square(63, house));
        }
    }

    private static void promise4() {
        for (int kind : outside(0, 5)) {
            beyondInBlank("4 BEYOND: kind " + kind, t -> t.house(kind, 5));
            beyond("4 BEYOND: kind " + kind + " ahead of FULL", t -> t.house(kind, 5));
        }
        for (int rate : outside(1, 99)) {
            beyondInBlank("4 BEYOND: rate " + rate, t -> t.house(0, rate));
            beyond("4 BEYOND: rate " + rate + " ahead of FULL", t -> t.house(5, rate));
        }
        finds("4 FULL", Due.FULL, t -> t.house(0, 1));
        finds("4 FULL", Due.FULL, t -> t.house(5, 99));
    }

    private static void promise5() {
        for (int h : outside(0, 5)) beyond("5 BEYOND: house " + h, t -> t.of(h, 0));
        for (int what = 0; what <= 7; what++) {
            int w = what;
            beyondInBlank("5 BEYOND: no house, what " + what, t -> t.of(0, w));
        }
        for (int what : outside(0, 7)) beyond("5 BEYOND: what " + what, t -> t.of(0, what));
    }

    private static void promise6() {
        for (int h : outside(0, 5)) {
            beyond("6 BEYOND: house " + h, t -> t.set(h, 1, 50));
            beyond("6 BEYOND: house " + h, t -> t.set(h, 2, 50));
        }
        beyondInBlank("6 BEYOND: no house", t -> t.set(0, 2, 1));
        for (int what : new int[] {-1, 0, 3, 4, 5, 7, FAR[0], FAR[1]}) {
            beyond("6 BEYOND: what " + what, t -> t.set(0, what, 1));
        }
        for (int v : outside(1, 99)) beyond("6 BEYOND: rate " + v, t -> t.set(1, 1, v));
        for (int v : outside(0, 9999)) beyond("6 BEYOND: wealth " + v, t -> t.set(1, 2, v));
    }

    private static void promise7() {
        for (int h : outside(0, 5)) beyond("7 BEYOND: house " + h, t -> t.turn(h, 0));
        for (int kind : outside(0, 5)) beyond("7 BEYOND: kind " + kind, t -> t.turn(1, kind));
        beyondInBlank("7 BEYOND: no house", t -> t.turn(0, 0));
    }

    private static void promise8() {
        for (int h : outside(0, 5)) beyond("8 BEYOND: house " + h + " ahead of KIND", t -> t.as(h, 1));
        for (int kind : outside(0, 5)) beyond("8 BEYOND: kind " + kind, t -> t.as(0, kind));
        beyondInBlank("8 BEYOND: no house", t -> t.as(0, 0));
        String[] above = {"0", "01", "02", "013", "024", "0135"};
        for (int house = 0; house < 6; house++) {
            for (int kind = 0; kind < 6; kind++) {
                int h = house;
                int k = kind;
                if (above[house].indexOf('0' + kind) < 0) {
                    finds("8 KIND: " + house + " as " + kind, Due.KIND, t -> t.as(h, k));
                }
            }
        }
    }

    private static void promises9And10() {
        for (int h : outside(0, 5)) {
            beyond("9 BEYOND: house " + h, t -> t.corner(h, 40));
            beyond("10 BEYOND: house " + h + " ahead of NONE", t -> t.ith(h, 80));
        }
        for (int p : outside(0, 80)) beyond("9 BEYOND: point " + p, t -> t.corner(0, p));
        beyondInBlank("9 BEYOND: no house", t -> t.corner(0, 0));
        beyondInBlank("10 BEYOND: no house", t -> t.ith(0, 0));
        beyond("10 BEYOND: i -1", t -> t.ith(0, -1));
        beyond("10 BEYOND: i below 0", t -> t.ith(0, FAR[1]));
        beyond("10 BEYOND: i -1 of a house without corners", t -> t.ith(5, -1));
        finds("10 NONE: as many as corners", Due.NONE, t -> t.ith(0, 12));
        for (int i : new int[] {13, 80, 81, 82, FAR[0]}) finds("10 NONE: i " + i, Due.NONE, t -> t.ith(0, i));
        finds("10 NONE: no corners", Due.NONE, t -> t.ith(5, 0));
    }

    private static void promises11And12() {
        for (int s : outside(0, 63)) beyond("11 BEYOND: square " + s, t -> t.sees(s, 0));
        for (int p : outside(0, 80)) {
            beyond("11 BEYOND: point " + p, t -> t.sees(56, p));
            beyond("11 BEYOND: point " + p + " ahead of STATE", t -> t.sees(0, p));
            beyond("12 BEYOND: point " + p, t -> t.seen(p));
            beyondInBlank("12 BEYOND: point " + p, t -> t.seen(p));
        }
        int[] noStreets = {0, 20, 22, 1, 37};
        for (int s : noStreets) finds("11 STATE: square " + s, Due.STATE, t -> t.sees(s, 0));
        Twins.finds("11 STATE: ground at first", Due.STATE, FindingTest::blank, t -> t.sees(0, 0));
    }

    private static void promises13And14() {
        for (int h : outside(0, 5)) beyond("13 BEYOND: house " + h, t -> t.counts(h, 40));
        for (int p : outside(0, 80)) {
            beyond("13 BEYOND: point " + p, t -> t.counts(0, p));
            beyond("14 BEYOND: point " + p, t -> t.whose(p));
            beyondInBlank("14 BEYOND: point " + p, t -> t.whose(p));
        }
        beyondInBlank("13 BEYOND: no house", t -> t.counts(0, 0));
    }

    private static void promise15() {
        for (int h : outside(0, 5)) beyond("15 BEYOND: house " + h, t -> t.round(h, 1));
        for (int p : outside(0, 80)) beyond("15 BEYOND: point " + p, t -> t.round(0, p));
        beyondInBlank("15 BEYOND: no house", t -> t.round(0, 0));
        finds("15 NONE: no corner, ahead of FULL", Due.NONE, t -> t.round(0, 80));
        finds("15 NONE: no squares", Due.NONE, t -> t.round(5, 0));
        finds("15 STATE: is rounded", Due.STATE, t -> t.round(1, 28));
        finds("15 STATE: is rounded, ahead of FULL", Due.STATE, t -> t.round(0, 1));
        finds("15 FULL: eight are", Due.FULL, t -> t.round(0, 12));
        Twins.finds("15 NONE: rounded but no corner any more, ahead of STATE and FULL", Due.NONE,
            FindingTest::richWithoutFirstHouse, t -> t.round(0, 1));
    }

    private static CornerTax richWithoutFirstHouse() {
        CornerTax tax = rich();
        tax.square(1, 0);
        return tax;
    }

    private static void promise16() {
        for (int h : outside(0, 5)) beyond("16 BEYOND: house " + h, t -> t.pays(h, 1));
        for (int p : outside(0, 80)) beyond("16 BEYOND: point " + p, t -> t.pays(0, p));
        beyondInBlank("16 BEYOND: no house", t -> t.pays(0, 0));
        finds("16 NONE: no corner", Due.NONE, t -> t.pays(1, 80));
        finds("16 NONE: is rounded", Due.NONE, t -> t.pays(1, 28));
        finds("16 NONE: unseen, so never", Due.NONE, t -> t.pays(1, 19));
        finds("16 NONE: seen, but counts nothing, so never", Due.NONE, t -> t.pays(2, 39));
        finds("16 NONE: no squares", Due.NONE, t -> t.pays(5, 0));
    }

    private static void promise17() {
        for (int h : outside(0, 5)) beyond("17 BEYOND: house " + h, t -> t.shed(h));
        beyondInBlank("17 BEYOND: no house", t -> t.shed(0));
        finds("17 NONE: no squares", Due.NONE, t -> t.shed(5));
        Twins.finds("17 NONE: no street", Due.NONE, FindingTest::richWithoutStreets, t -> t.shed(1));
    }

    private static CornerTax richWithoutStreets() {
        CornerTax tax = rich();
        for (int s = 56; s < 64; s++) tax.square(s, 0);
        return tax;
    }

    private static void promises18And19() {
        for (int n : outside(1, 12)) {
            beyondInBlank("18 BEYOND: n " + n, t -> t.plot(n, 0));
            beyondInBlank("18 BEYOND: n " + n, t -> t.plot(n, 1));
        }
        for (int what : outside(0, 1)) beyond("18 BEYOND: what " + what, t -> t.plot(12, what));
        for (int what : outside(-1, 63)) {
            beyond("19 BEYOND: what " + what, t -> t.spots(what));
            beyondInBlank("19 BEYOND: what " + what, t -> t.spots(what));
        }
        finds("19 NONE: as many as there are", Due.NONE, t -> t.spots(rich().spots(-1)));
        finds("19 NONE: the greatest", Due.NONE, t -> t.spots(63));
        Twins.finds("19 NONE: it is empty", Due.NONE, FindingTest::blank, t -> t.spots(0));
        Twins.finds("19 NONE: no street", Due.NONE, FindingTest::richWithoutStreets, t -> t.spots(0));
    }

    private static void promises21To23() {
        beyond("21 BEYOND: n -1", t -> t.rateFor(-1));
        beyond("21 BEYOND: n below 0", t -> t.rateFor(FAR[1]));
        beyondInBlank("21 BEYOND: n -1", t -> t.rateFor(-1));
        finds("21 NONE", Due.NONE, t -> t.rateFor(FAR[0]));
        Twins.finds("21 NONE: no houses", Due.NONE, FindingTest::blank, t -> t.rateFor(1));
        Twins.finds("22 NONE: no houses", Due.NONE, FindingTest::blank, t -> t.neighbours());
        for (int n : outside(1, 20)) {
            beyond("23 BEYOND: n " + n, t -> t.years(n));
            beyondInBlank("23 BEYOND: n " + n, t -> t.years(n));
        }
        beyond("23 BEYOND: n -20", t -> t.years(-20));
    }

    private static void promise24() {
        for (int n : outside(1, 4)) {
            beyondInBlank("24 BEYOND: n " + n, t -> t.feed(' ', n));
            beyond("24 BEYOND: n " + n + " ahead of FULL", t -> t.feed(' ', n));
        }
        finds("24 FULL: three to 118", Due.FULL, t -> t.feed(0x20202020, 3));
        finds("24 FULL: four to 118", Due.FULL, t -> t.feed(-1, 4));
        for (int n = 1; n <= 4; n++) {
            int k = n;
            Twins.finds("24 FULL: " + n + " to 120", Due.FULL, FindingTest::richWithFullTape, t -> t.feed('7', k));
        }
        Twins.finds("24 BEYOND: five to 120", Due.BEYOND, FindingTest::richWithFullTape, t -> t.feed('7', 5));
        Twins.finds("24 BEYOND: none to 120", Due.BEYOND, FindingTest::richWithFullTape, t -> t.feed('7', 0));
    }

    private static CornerTax richWithFullTape() {
        CornerTax tax = rich();
        tax.feed(0x2020, 2);
        return tax;
    }

    private static void promise27() {
        for (int s : outside(0, 3)) {
            beyond("27 BEYOND: sheet " + s, t -> t.sheet(s, 8, 5));
            beyond("27 BEYOND: sheet " + s + " ahead of SIZE", t -> t.sheet(s, 8, -1));
        }
        for (int bits : new int[] {-8, -1, 1, 7, 9, 15, 17, 32, 63, 65, 128, 264, FAR[0], FAR[1]}) {
            beyond("27 BEYOND: bits " + bits, t -> t.sheet(0, bits, 5));
            beyond("27 BEYOND: bits " + bits + " ahead of SIZE", t -> t.sheet(0, bits, -1));
        }
        for (int bits : new int[] {0, 8, 16, 64}) {
            for (int sheet = 0; sheet < 4; sheet++) {
                int s = sheet;
                finds("27 SIZE: n -1, bits " + bits, Due.SIZE, t -> t.sheet(s, bits, -1));
                finds("27 SIZE: n below 0, bits " + bits, Due.SIZE, t -> t.sheet(s, bits, FAR[1]));
                beyond("27 BEYOND: n 41, bits " + bits, t -> t.sheet(s, bits, 41));
                beyond("27 BEYOND: n above 40, bits " + bits, t -> t.sheet(s, bits, FAR[0]));
            }
        }
    }

    private static void promise28() {
        for (int s : outside(0, 3)) beyond("28 BEYOND: sheet " + s, t -> t.write(s, 0, 1));
        for (int i : new int[] {0, -1, 40, FAR[0], FAR[1]}) {
            finds("28 MISSING ahead of BEYOND: number " + i, Due.MISSING, t -> t.write(3, i, 1));
        }
        for (int s = 0; s < 4; s++) {
            int sheet = s;
            Twins.finds("28 MISSING at first", Due.MISSING, FindingTest::blank, t -> t.write(sheet, 0, 1));
        }
        for (int i : outside(0, 4)) beyond("28 BEYOND: number " + i + " of 5", t -> t.write(0, i, 1));
        for (int i : outside(0, 39)) beyond("28 BEYOND: number " + i + " of 40", t -> t.write(1, i, 1));
        for (int i : outside(0, -1)) beyond("28 BEYOND: number " + i + " of none", t -> t.write(2, i, 1));
        beyond("28 BEYOND: number 0 of none", t -> t.write(2, 0, Long.MIN_VALUE));
    }

    private static void promise29() {
        for (int s : outside(0, 3)) {
            beyond("29 BEYOND: sheet " + s, t -> t.copy(s, 0, 0, 0, 1));
            beyond("29 BEYOND: to sheet " + s, t -> t.copy(0, 0, s, 0, 1));
            beyond("29 BEYOND: sheet " + s + " ahead of MISSING", t -> t.copy(s, 0, 3, 0, 1));
            beyond("29 BEYOND: to sheet " + s + " ahead of MISSING", t -> t.copy(3, 0, s, 0, 1));
        }
        for (int n : new int[] {0, 1, -1, FAR[0]}) {
            finds("29 MISSING: the first, n " + n, Due.MISSING, t -> t.copy(3, 0, 0, 0, n));
            finds("29 MISSING: the other, n " + n, Due.MISSING, t -> t.copy(0, 0, 3, 0, n));
            finds("29 MISSING: both, n " + n, Due.MISSING, t -> t.copy(3, 0, 3, 0, n));
            finds("29 KIND: 8 and 16, n " + n, Due.KIND, t -> t.copy(0, 0, 1, 0, n));
            finds("29 KIND: 64 and 8, n " + n, Due.KIND, t -> t.copy(2, 0, 0, 0, n));
            finds("29 KIND: 16 and 64, n " + n, Due.KIND, t -> t.copy(1, 99, 2, -1, n));
        }
        int[][] wrong = {{0, 0, 0, 0, 6}, {0, 1, 0, 0, 5}, {0, 0, 0, 1, 5}, {0, 5, 0, 0, 1}, {0, 0, 0, 5, 1},
            {0, 6, 0, 0, 0}, {0, 0, 0, 6, 0}, {0, -1, 0, 0, 0}, {0, 0, 0, -1, 0}, {0, 0, 0, 0, -1},
            {0, -1, 0, 0, 1}, {0, 0, 0, -1, 1}, {0, 3, 0, 3, -3}, {1, 39, 1, 0, 2}, {1, 0, 1, 39, 2},
            {1, 0, 1, 0, 41}, {2, 0, 2, 0, 1}, {2, 1, 2, 0, 0}, {2, 0, 2, 1, 0}};
        for (int[] w : wrong) copyIsBeyond(w[0], w[1], w[2], w[3], w[4]);
        for (int far : FAR) {
            copyIsBeyond(0, far, 0, 0, 1);
            copyIsBeyond(0, 0, 0, far, 1);
            copyIsBeyond(0, 0, 0, 0, far);
            copyIsBeyond(0, 1, 0, 1, far);
            copyIsBeyond(0, far, 0, far, far);
            copyIsBeyond(0, far, 0, 0, 0);
            copyIsBeyond(0, 0, 0, far, 0);
        }
    }

    private static void copyIsBeyond(int s, int from, int t, int to, int n) {
        beyond("29 BEYOND: from " + from + " to " + to + " n " + n, x -> x.copy(s, from, t, to, n));
    }

    private static void promise30() {
        for (int s : outside(0, 3)) {
            beyond("30 BEYOND: sheet " + s, t -> t.lays(s, 0));
            beyond("30 BEYOND: sheet " + s + " and square", t -> t.lays(s, 64));
        }
        for (int square : new int[] {0, 63, 64, -1}) {
            finds("30 MISSING ahead of BEYOND: square " + square, Due.MISSING, t -> t.lays(3, square));
        }
        for (int square : outside(0, 63)) {
            for (int s = 0; s < 3; s++) {
                int sheet = s;
                beyond("30 BEYOND: square " + square, t -> t.lays(sheet, square));
            }
        }
    }

    private static void promise31() {
        for (int s : outside(0, 3)) {
            beyond("31 BEYOND: sheet " + s, t -> t.read(s, 0));
            beyond("31 BEYOND: sheet " + s + " and house", t -> t.read(s, 6));
        }
        for (int house : new int[] {0, 5, 6, -1}) {
            finds("31 MISSING ahead of BEYOND: house " + house, Due.MISSING, t -> t.read(3, house));
        }
        for (int house : outside(0, 5)) {
            for (int s = 0; s < 3; s++) {
                int sheet = s;
                beyond("31 BEYOND: house " + house, t -> t.read(sheet, house));
            }
        }
        Twins.finds("31 MISSING ahead of BEYOND: no house", Due.MISSING, FindingTest::blank, t -> t.read(0, 0));
    }

    private static void promise33() {
        Twins.finds("33 NONE: nothing is kept at first", Due.NONE, FindingTest::blank, t -> t.undo());
        Twins.finds("33 NONE: it was torn", Due.NONE, FindingTest::richAndTorn, t -> t.undo());
    }

    private static CornerTax richAndTorn() {
        CornerTax tax = rich();
        tax.tear();
        return tax;
    }

    private static void promises35And36() {
        for (int what : outside(0, 5)) {
            beyond("35 BEYOND: what " + what, t -> t.count(what));
            beyondInBlank("35 BEYOND: what " + what, t -> t.count(what));
        }
        for (int which : outside(-1, 6)) {
            beyond("36 BEYOND: which " + which, t -> t.status(which));
            beyondInBlank("36 BEYOND: which " + which, t -> t.status(which));
        }
    }

    /** Calls that only ask leave all as it was, with right arguments, too. */
    private static void asksChangeNothing() {
        asks("3 at", 10, t -> t.at(1));
        asks("5 of", 5, t -> t.of(0, 1));
        asks("8 as", 99, t -> t.as(5, 3));
        asks("9 corner", 3, t -> t.corner(1, 29));
        asks("10 ith", 15, t -> t.ith(0, 11));
        asks("11 sees", 1, t -> t.sees(56, 72));
        asks("12 seen", 8, t -> t.seen(64));
        asks("13 counts", rich().counts(4, 55), t -> t.counts(4, 55));
        asks("14 whose", 6, t -> t.whose(39));
        asks("16 pays", 2, t -> t.pays(3, 42));
        asks("17 shed", rich().shed(1), t -> t.shed(1));
        asks("18 plot", 31, t -> t.plot(5, 1));
        asks("19 spots", rich().spots(0), t -> t.spots(0));
        asks("20 yields", rich().yields(), t -> t.yields());
        asks("21 rateFor", 1, t -> t.rateFor(1));
        asks("22 neighbours", 23, t -> t.neighbours());
        asks("31 read", 1, t -> t.read(0, 0));
        asks("35 count", 118, t -> t.count(4));
        asks("36 status", 1, t -> t.status(6));
        asks("2 what it is already", 10, t -> t.square(1, 10));
        asks("6 what it is already", 5, t -> t.set(0, 1, 5));
        asks("7 what it is already", 5, t -> t.turn(5, 5));
        asks("29 none", 0, t -> t.copy(1, 40, 1, 40, 0));
        asks("30 none", 0, t -> t.lays(2, 0));
    }

    private static void asks(String what, long want, Twins.Call call) {
        Twins.asks(what, want, FindingTest::rich, call);
    }
}
