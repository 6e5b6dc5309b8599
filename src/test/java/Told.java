import java.util.Arrays;

/** All that an object's calls tell of it, to see whether a call has changed anything. */
final class Told {
    /** The refusals' counts come first, -1 to -7, and the fault behind them. */
    static final int REFUSALS = 7;
    static final int FAULT = REFUSALS;
    private static final int ELEMENTS = 48;

    private final long[] told = new long[2000];
    private int n;

    private Told() {
    }

    /** What the object tells: the image last, so that the object is as that has it afterwards. */
    static long[] of(TaxOnLooks x) {
        Told all = new Told();
        for (int what = 11; what <= 17; what++) {
            all.add(x.status(what));
        }
        all.add(x.fault());
        all.trace(x);
        all.town(x);
        all.squares(x);
        all.shelves(x);
        all.add(x.restore());
        all.town(x);
        return Arrays.copyOf(all.told, all.n);
    }

    private void add(long v) {
        told[n] = v;
        n++;
    }

    private void trace(TaxOnLooks x) {
        int ran = x.status(10);
        add(ran);
        for (int i = 0; i <= ran; i++) {
            add(x.trace(i));
        }
    }

    private void town(TaxOnLooks x) {
        for (int what = 0; what < 10; what++) {
            add(x.status(what));
        }
        int people = x.status(0);
        for (int i = 0; i < people; i++) {
            for (int what = 0; what < 7; what++) {
                add(x.personOf(i, what));
            }
        }
    }

    private void squares(TaxOnLooks x) {
        for (int square = 0; square < 36; square++) {
            add(x.squareOf(square, 0));
            add(x.squareOf(square, 1));
        }
    }

    private void shelves(TaxOnLooks x) {
        for (int s = 0; s < 8; s++) {
            int held = x.holds(s);
            add(held);
            for (int i = 0; i < ELEMENTS && held >= 100; i++) {
                add(x.element(s, i));
            }
        }
    }
}
