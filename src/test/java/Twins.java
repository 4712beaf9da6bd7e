import java.util.Arrays;

/**
 * Whether a call leaves an object as it was: the object and a twin with the same past that didn't
 * make the call must answer alike ever after. What follows is cut into parts, each with twins of its
 * own, since an object is good for 512 calls and some parts change what they look at.
 */
final class Twins {
    /** One call with its answer. */
    interface Call {
        long on(CornerTax tax);
    }

    /** Makes an object and lives through its past: always the same, in at most 150 calls. */
    interface Past {
        CornerTax lived();
    }

    private static final int PARTS = 7;
    private static final int MOST_HOUSES = 6;

    private Twins() {
    }

    /** The call answers a finding: it is counted, and nothing else changes. */
    static void finds(String what, int finding, Past past, Call call) {
        statusMoves(what, finding, past, call);
        alike(what + ": changes nothing", past, call, t -> 0);
    }

    /** The call answers no finding and changes nothing at all. */
    static void asks(String what, long want, Past past, Call call) {
        CornerTax tax = past.lived();
        long[] before = statuses(tax);
        Due.is(what, want, call.on(tax));
        Due.holds(what + ": status stays", Arrays.equals(before, statuses(tax)));
        alike(what + ": changes nothing", past, call, t -> 0);
    }

    private static void statusMoves(String what, int finding, Past past, Call call) {
        CornerTax tax = past.lived();
        long[] want = statuses(tax);
        want[0]++;
        want[1 + Due.BEYOND - finding]++;
        Due.is(what, finding, call.on(tax));
        long[] got = statuses(tax);
        Due.holds(what + ": status is " + Arrays.toString(got) + ", due is " + Arrays.toString(want),
            Arrays.equals(want, got));
    }

    /** All findings, then BEYOND to SIZE. */
    static long[] statuses(CornerTax tax) {
        long[] told = new long[8];
        for (int k = 0; k < 8; k++) told[k] = tax.status(k - 1);
        return told;
    }

    /** Two calls leave the same, but for status. */
    static void alike(String what, Past past, Call one, Call other) {
        for (int part = 0; part < PARTS; part++) {
            CornerTax tax = past.lived();
            CornerTax twin = past.lived();
            one.on(tax);
            other.on(twin);
            int place = Arrays.mismatch(answers(twin, part), answers(tax, part));
            Due.is(what + ", part " + part + ", first answer that differs", -1, place);
        }
    }

    private static long[] answers(CornerTax tax, int part) {
        long[] told = new long[400];
        switch (part) {
            case 0: squaresAndHouses(tax, told); break;
            case 1: counts(tax, told, 0); break;
            case 2: counts(tax, told, 3); break;
            case 3: roundings(tax, told); break;
            case 4: sheets(tax, told); break;
            case 5:
                told[399] = tax.town();
                squaresAndHouses(tax, told);
                break;
            default:
                told[399] = tax.undo();
                told[398] = tax.undo();
                squaresAndHouses(tax, told);
        }
        return told;
    }

    private static void squaresAndHouses(CornerTax tax, long[] told) {
        int k = 0;
        for (int s = 0; s < 64; s++) told[k++] = tax.at(s);
        for (int what = 0; what <= 5; what++) told[k++] = tax.count(what);
        for (int h = 0; h < MOST_HOUSES; h++) {
            for (int what = 0; what <= 7; what++) told[k++] = tax.of(h, what);
        }
        for (int p = 0; p <= 80; p++) told[k++] = tax.seen(p);
        told[k++] = tax.spots(-1);
        told[k] = tax.yields();
    }

    private static void counts(CornerTax tax, long[] told, int first) {
        int k = 0;
        for (int h = first; h < first + 3; h++) {
            for (int p = 0; p <= 80; p++) told[k++] = tax.counts(h, p);
        }
    }

    /** Rounding every corner tells which are rounded and in how many more there is room. */
    private static void roundings(CornerTax tax, long[] told) {
        int k = 0;
        for (int h = 0; h < MOST_HOUSES; h++) {
            for (int i = 0; i < 15; i++) {
                int point = tax.ith(h, i);
                told[k++] = point;
                told[k++] = tax.round(h, point);
            }
        }
    }

    private static void sheets(CornerTax tax, long[] told) {
        int k = 0;
        for (int s = 0; s < 4; s++) {
            for (int i = 0; i <= 40; i++) told[k++] = tax.write(s, i, (1L << 40) + 300);
            // What a number has become of it tells the bits.
            told[k++] = tax.write(s, 0, 0);
        }
        told[k++] = tax.wipe();
        told[k] = tax.tear();
    }
}
