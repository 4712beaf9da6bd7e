/** Promises 27 to 31 at their edges: sheets of no and of forty numbers, and numbers at the ends of their bits. */
public final class SheetEdgeTest {
    private static final int[] BITS = {8, 16, 64};

    public static void main(String[] args) {
        promise27();
        promise27Anew();
        promise28Bits();
        promise28Numbers();
        promise29Ends();
        promise29AsTheyWere();
        promise30Numbers();
        promise30Squares();
        promise30Houses();
        promise31();
        promise31Bits();
        promise31Long();
        Due.finish();
    }

    private static CornerTax town(String text) {
        CornerTax tax = new CornerTax();
        Due.holds("a right text: " + text, Due.told(tax, text) > 0);
        return tax;
    }

    private static void fill(CornerTax tax, int s, int bits, long... numbers) {
        tax.sheet(s, bits, numbers.length);
        for (int i = 0; i < numbers.length; i++) tax.write(s, i, numbers[i]);
    }

    /** Looks at the numbers and leaves them as they are. */
    private static void holds(String what, CornerTax tax, int s, long... want) {
        for (int i = 0; i < want.length; i++) {
            long got = tax.write(s, i, 0);
            tax.write(s, i, got);
            Due.is(what + ", number " + i, want[i], got);
        }
        Due.is(what + ", no more numbers", Due.BEYOND, tax.write(s, want.length, 0));
    }

    private static void promise27() {
        for (int s = 0; s < 4; s++) {
            for (int bits : BITS) {
                for (int n : new int[] {0, 1, 39, 40}) {
                    CornerTax tax = new CornerTax();
                    Due.is("27 n", n, tax.sheet(s, bits, n));
                    if (n > 0) Due.is("27 the last number", 0, tax.write(s, n - 1, 1));
                    Due.is("27 BEYOND the last number", Due.BEYOND, tax.write(s, n, 1));
                    for (int other = 0; other < 4; other++) {
                        if (other != s) Due.is("27 the others stay MISSING", Due.MISSING, tax.write(other, 0, 1));
                    }
                    Due.is("27 bits 0: it is MISSING", 0, tax.sheet(s, 0, n));
                    Due.is("27 it is MISSING", Due.MISSING, tax.write(s, 0, 1));
                    Due.is("27 bits 0 again", 0, tax.sheet(s, 0, 40));
                }
            }
        }
    }

    private static void promise27Anew() {
        CornerTax tax = new CornerTax();
        for (int bits : BITS) {
            fill(tax, 0, bits, 1, 2, 3, 4, 5);
            Due.is("27 fewer", 2, tax.sheet(0, bits, 2));
            holds("27 all 0", tax, 0, 0, 0);
            fill(tax, 0, bits, 7, 8);
            Due.is("27 more", 5, tax.sheet(0, bits, 5));
            holds("27 all 0", tax, 0, 0, 0, 0, 0, 0);
            fill(tax, 0, bits, 7, 8, 9);
            Due.is("27 as many", 3, tax.sheet(0, bits, 3));
            holds("27 all 0", tax, 0, 0, 0, 0);
            fill(tax, 0, bits, 7, 8, 9);
            tax.sheet(0, 0, 3);
            tax.sheet(0, bits, 3);
            holds("27 all 0 behind MISSING", tax, 0, 0, 0, 0);
        }
        fill(tax, 0, 64, 1L << 40);
        tax.sheet(0, 8, 1);
        tax.write(0, 0, 300);
        Due.is("27 other bits", 44, tax.write(0, 0, 0));
    }

    private static void promise28Bits() {
        long[][] eight = {{127, 127}, {128, -128}, {255, -1}, {256, 0}, {-128, -128}, {-129, 127}, {-256, 0},
            {Long.MAX_VALUE, -1}, {Long.MIN_VALUE, 0}, {1L << 32, 0}, {-1, -1}};
        long[][] sixteen = {{127, 127}, {128, 128}, {32767, 32767}, {32768, -32768}, {65535, -1}, {65536, 0},
            {-32768, -32768}, {-32769, 32767}, {Long.MAX_VALUE, -1}, {Long.MIN_VALUE, 0}, {1L << 32, 0}};
        long[][] all = {{Long.MAX_VALUE, Long.MAX_VALUE}, {Long.MIN_VALUE, Long.MIN_VALUE}, {-1, -1},
            {1L << 32, 1L << 32}, {4294967295L, 4294967295L}, {Integer.MIN_VALUE, Integer.MIN_VALUE}};
        long[][][] byBits = {eight, sixteen, all};
        for (int k = 0; k < 3; k++) {
            CornerTax tax = new CornerTax();
            tax.sheet(2, BITS[k], 40);
            for (int i : new int[] {0, 39}) {
                long was = 0;
                for (long[] v : byBits[k]) {
                    Due.is("28 what it was, " + BITS[k] + " bits", was, tax.write(2, i, v[0]));
                    was = v[1];
                }
                Due.is("28 what it was, " + BITS[k] + " bits", was, tax.write(2, i, 0));
            }
        }
    }

    private static void promise28Numbers() {
        CornerTax tax = new CornerTax();
        tax.sheet(0, 64, 40);
        tax.sheet(1, 64, 40);
        for (int i = 0; i < 40; i++) Due.is("28 all 0", 0, tax.write(0, i, 1000 + i));
        for (int i = 0; i < 40; i++) Due.is("28 each number by itself", 1000 + i, tax.write(0, i, Due.BEYOND));
        for (int i = 0; i < 40; i++) Due.is("28 a number may be like a finding", Due.BEYOND, tax.write(0, i, 0));
        for (int i = 0; i < 40; i++) Due.is("28 another sheet stays", 0, tax.write(1, i, 0));
        Due.is("28 and is none", 0, tax.status(-1));
    }

    private static void promise29Ends() {
        CornerTax tax = new CornerTax();
        for (int bits : BITS) {
            fill(tax, 0, bits, 1, 2, 3);
            fill(tax, 1, bits, 7, 8, 9, 10);
            Due.is("29 none, from the end", 0, tax.copy(0, 3, 1, 4, 0));
            Due.is("29 none, from the beginning", 0, tax.copy(0, 0, 1, 0, 0));
            holds("29 none came", tax, 1, 7, 8, 9, 10);
            Due.is("29 the last to the last", 1, tax.copy(0, 2, 1, 3, 1));
            holds("29 one came", tax, 1, 7, 8, 9, 3);
            Due.is("29 all", 3, tax.copy(0, 0, 1, 0, 3));
            holds("29 all came", tax, 1, 1, 2, 3, 3);
            Due.is("29 all, to the end", 3, tax.copy(0, 0, 1, 1, 3));
            holds("29 all came", tax, 1, 1, 1, 2, 3);
            Due.is("29 BEYOND: one more than there are", Due.BEYOND, tax.copy(0, 0, 1, 0, 4));
            Due.is("29 BEYOND: one more than there is room", Due.BEYOND, tax.copy(0, 0, 1, 2, 3));
            holds("29 it stays", tax, 0, 1, 2, 3);
            holds("29 nothing came", tax, 1, 1, 1, 2, 3);
            tax.sheet(2, bits, 0);
            Due.is("29 none to none", 0, tax.copy(2, 0, 2, 0, 0));
            Due.is("29 none of none", 0, tax.copy(2, 0, 1, 4, 0));
            Due.is("29 BEYOND: one of none", Due.BEYOND, tax.copy(2, 0, 1, 0, 1));
            Due.is("29 BEYOND: one to none", Due.BEYOND, tax.copy(1, 0, 2, 0, 1));
        }
        fill(tax, 0, 64, Long.MIN_VALUE, Long.MAX_VALUE);
        tax.sheet(3, 64, 40);
        Due.is("29 all bits", 2, tax.copy(0, 0, 3, 38, 2));
        Due.is("29 all bits", Long.MIN_VALUE, tax.write(3, 38, 0));
        Due.is("29 all bits", Long.MAX_VALUE, tax.write(3, 39, 0));
        Due.is("29 forty", 40, tax.copy(3, 0, 3, 0, 40));
    }

    private static void promise29AsTheyWere() {
        CornerTax tax = new CornerTax();
        for (int from = 0; from <= 2; from++) {
            for (int to = 0; to <= 2; to++) {
                fill(tax, 3, 16, 11, 12, 13, 14, 15);
                Due.is("29 within one sheet", 3, tax.copy(3, from, 3, to, 3));
                long[] want = {11, 12, 13, 14, 15};
                for (int k = 0; k < 3; k++) want[to + k] = 11 + from + k;
                holds("29 from " + from + " to " + to, tax, 3, want);
            }
        }
    }

    private static void promise30Numbers() {
        // With two houses: what comes, and what is left out.
        long[] come = {0, 1, 2, 3, 10, 11};
        long[] left = {-1, 4, 5, 9, 12, 15, 16, 127, -128, -54};
        for (int bits : BITS) {
            for (long v : come) lay("30 " + v + " comes, bits " + bits, bits, v, 1, (int) v);
            for (long v : left) lay("30 " + v + " is left out, bits " + bits, bits, v, 0, 3);
        }
        lay("30 what is left of it in 8 bits comes", 8, 256 + 11, 1, 11);
        lay("30 what is left of it in 16 bits comes", 16, 65536 + 10, 1, 10);
        long[] far = {1L << 32, (1L << 32) + 1, (1L << 32) + 10, -(1L << 32), Long.MIN_VALUE, Long.MAX_VALUE,
            Long.MIN_VALUE + 1, (1L << 63) + 10, 1L << 8, (1L << 16) + 1};
        for (long v : far) lay("30 " + v + " is left out", 64, v, 0, 3);
    }

    private static void lay(String what, int bits, long v, int came, int becomes) {
        CornerTax tax = town("law 1;law 1;tree 20 to 22");
        fill(tax, 0, bits, v);
        Due.is(what, came, tax.lays(0, 21));
        Due.is(what, becomes, tax.at(21));
        Due.is(what + ", the one ahead stays", 3, tax.at(20));
        Due.is(what + ", the one behind stays", 3, tax.at(22));
    }

    private static void promise30Squares() {
        for (int from : new int[] {0, 23, 24, 25, 62, 63}) {
            CornerTax tax = town("tree 0 to 63");
            tax.sheet(0, 8, 40);
            int came = Math.min(40, 64 - from);
            Due.is("30 forty numbers from " + from, came, tax.lays(0, from));
            for (int s = 0; s < 64; s++) {
                boolean laid = s >= from && s < from + 40;
                Due.is("30 forty from " + from + ", square " + s, laid ? 0 : 3, tax.at(s));
            }
        }
        CornerTax none = town("tree 0 to 63");
        for (int bits : BITS) {
            none.sheet(0, bits, 0);
            Due.is("30 no numbers", 0, none.lays(0, 0));
            Due.is("30 no numbers", 0, none.lays(0, 63));
        }
        fill(none, 0, 8, 1, 7, 2);
        Due.is("30 one left out keeps its square", 2, none.lays(0, 60));
        int[] then = {1, 3, 2, 3};
        for (int k = 0; k < 4; k++) Due.is("30 square " + (60 + k), then[k], none.at(60 + k));
        Due.is("30 left out and behind 63", 1, none.lays(0, 62));
        Due.is("30 left out", 3, none.at(63));
        Due.is("30 the sheet stays", 7, none.write(0, 1, 0));
    }

    private static void promise30Houses() {
        CornerTax tax = new CornerTax();
        fill(tax, 0, 8, 10, 11, 12, 13, 14, 15, 16);
        for (int houses = 0; houses <= 6; houses++) {
            Due.is("30 houses that there are", houses, tax.lays(0, 8));
            Due.is("30 squares of houses", houses, tax.count(5));
            if (houses < 6) tax.house(0, 1);
        }
        CornerTax seen = town("street 63;law 1 on 0");
        Due.is("30 tax before", 3, seen.of(0, 6));
        Due.is("30 spots before", 1, seen.spots(-1));
        fill(seen, 0, 8, 0);
        seen.lays(0, 63);
        Due.is("30 tax follows", 0, seen.of(0, 6));
        Due.is("30 spots follow", 0, seen.spots(-1));
    }

    private static void promise31() {
        CornerTax tax = town("law 1 on 63;law 1");
        long[] corners = {70, 71, 79, 80};
        for (int bits : BITS) {
            fill(tax, 0, bits, corners);
            Due.is("31 these", 0, tax.read(0, 0));
            for (int wrong = 0; wrong < 4; wrong++) {
                for (long v : new long[] {corners[wrong] - 1, corners[wrong] + 1, -1, 81}) {
                    if (v == corners[wrong]) continue;
                    tax.write(0, wrong, v);
                    Due.is("31 number " + wrong + " isn't", 1 + wrong, tax.read(0, 0));
                }
                tax.write(0, wrong, corners[wrong]);
            }
            fill(tax, 1, bits, 70, 71, 79);
            Due.is("31 more must come", 4, tax.read(1, 0));
            fill(tax, 1, bits, 70, 71, 79, 80, 80);
            Due.is("31 one too many", 5, tax.read(1, 0));
            fill(tax, 1, bits, 70, 71, 80, 79);
            Due.is("31 by points", 3, tax.read(1, 0));
            tax.sheet(1, bits, 0);
            Due.is("31 all must come", 1, tax.read(1, 0));
            Due.is("31 no corners, no numbers", 0, tax.read(1, 1));
            tax.sheet(1, bits, 1);
            Due.is("31 no corners, one number", 1, tax.read(1, 1));
            tax.sheet(1, bits, 40);
            Due.is("31 no corners, forty numbers", 1, tax.read(1, 1));
        }
    }

    private static void promise31Bits() {
        CornerTax tax = town("law 1 on 0");
        for (long v : new long[] {1L << 32, Long.MIN_VALUE, 1L << 8, 1L << 16}) {
            fill(tax, 0, 64, v, 1, 9, 10);
            Due.is("31 by all bits", 1, tax.read(0, 0));
            fill(tax, 0, 64, 0, 1, 9, 10 + v);
            Due.is("31 by all bits", 4, tax.read(0, 0));
        }
        fill(tax, 0, 8, 256, 257, 265, -246);
        Due.is("31 by what is left of them", 0, tax.read(0, 0));
        tax.round(0, 10);
        Due.is("31 rounded ones are corners yet", 0, tax.read(0, 0));
    }

    private static void promise31Long() {
        // Every other square: corners at all points but 8 and 72, more than a sheet can hold.
        CornerTax tax = town("law 1");
        for (int s = 0; s < 64; s++) if ((s / 8 + s % 8) % 2 == 0) tax.square(s, 10);
        tax.sheet(0, 8, 40);
        for (int i = 0; i < 40; i++) tax.write(0, i, i < 8 ? i : i + 1);
        Due.is("31 forty are right, more must come", 41, tax.read(0, 0));
        tax.write(0, 39, 41);
        Due.is("31 the last isn't", 40, tax.read(0, 0));
    }
}
