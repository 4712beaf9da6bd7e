import java.lang.management.ManagementFactory;

/** All calls of a run live in one room: an object is small, and its calls make nothing new. */
public final class RoomTest {
    private static final int BYTES_OF_AN_OBJECT = 16000;
    private static final int BYTES_OF_NOISE = 4000;

    private static final com.sun.management.ThreadMXBean THREADS =
        (com.sun.management.ThreadMXBean) ManagementFactory.getThreadMXBean();

    private static long answers = 0;

    public static void main(String[] args) {
        // The first round loads classes; only the second one is measured.
        long[] spent = null;
        for (int round = 0; round < 2; round++) {
            long start = made();
            CornerTax tax = new CornerTax();
            long object = made() - start;
            live(tax);
            spent = new long[] {object, made() - start - object};
        }
        System.out.println("an object: " + spent[0] + " bytes, its calls: " + spent[1] + " bytes");
        Due.holds("an object is small", spent[0] < BYTES_OF_AN_OBJECT);
        Due.holds("calls make nothing", spent[1] < BYTES_OF_NOISE);
        Due.holds("they did answer", answers != 0);
        Due.finish();
    }

    private static long made() {
        return THREADS.getThreadAllocatedBytes(Thread.currentThread().getId());
    }

    /** Some 490 calls, the dear ones among them again and again. */
    private static void live(CornerTax tax) {
        for (int h = 0; h < 6; h++) answers += tax.house(h, 10 + h);
        for (int s = 0; s < 64; s++) answers += tax.square(s, s % 3 == 0 ? 1 : s % 5 == 0 ? 10 + s % 6 : 0);
        answers += tax.sheet(0, 64, 40) + tax.sheet(1, 64, 40);
        for (int round = 0; round < 11; round++) {
            int h = round % 6;
            answers += tax.square(round, 2) + tax.at(round) + tax.of(h, 6) + tax.of(h, 4) + tax.set(h, 2, 500);
            answers += tax.turn(h, 5 - h) + tax.as(h, 0) + tax.corner(h, 40) + tax.ith(h, 3) + tax.sees(3, 40);
            answers += tax.seen(40) + tax.counts(h, 40) + tax.whose(40) + tax.round(h, tax.ith(h, 0));
            answers += tax.pays(h, 40) + tax.shed(h) + tax.plot(1 + round, 0) + tax.spots(-1) + tax.yields();
            answers += tax.rateFor(500) + tax.neighbours() + tax.years(20) + tax.image() + tax.undo();
            answers += tax.feed(0x74726565, 4) + tax.feed(0x20313120, 4) + tax.town() + tax.feed(-1, 1) + tax.town();
            answers += tax.write(0, round, 10 + h) + tax.copy(0, 0, 1, 1, 30) + tax.lays(0, 50) + tax.read(0, h);
            answers += tax.count(1) + tax.status(-1) + tax.tear() + tax.wipe();
        }
    }
}
