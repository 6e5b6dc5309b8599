import java.util.Arrays;
import java.util.function.Consumer;
import java.util.function.ToLongFunction;

/**
 * One edge's objects and what is due of them. Each call is asked of an object of its own, made
 * ready by the edge's scene: so no call leans on another, and none comes to its object's 512th.
 */
final class Edge {
    static final int LEAST = Integer.MIN_VALUE;
    static final int MOST = Integer.MAX_VALUE;
    /** The shelf by which texts are read. */
    private static final int TEXT = 7;

    private final Due due;
    private final String name;
    private Consumer<TaxOnLooks> scene = x -> { };

    Edge(Due due, String name) {
        this.due = due;
        this.name = name;
    }

    /** From here on every object is made ready like this. */
    void given(Consumer<TaxOnLooks> newScene) {
        scene = newScene;
    }

    /** From here on every object is of the town that a text tells. */
    void given(String text) {
        given(x -> Due.settle(x, TEXT, text));
    }

    /** A new object, made ready. */
    TaxOnLooks x() {
        TaxOnLooks x = new TaxOnLooks();
        scene.accept(x);
        return x;
    }

    void is(long want, long got) {
        due.is(want == got ? name : name + place(), got, want);
    }

    /** The call's answer, whatever else it does. */
    void answers(long want, ToLongFunction<TaxOnLooks> call) {
        is(want, call.applyAsLong(x()));
    }

    /** The call's answer; it changes nothing at all, and refuses nothing: so it answers it again. */
    void asked(long want, ToLongFunction<TaxOnLooks> call) {
        TaxOnLooks x = x();
        is(want, call.applyAsLong(x));
        is(want, call.applyAsLong(x));
        same(Told.of(x()), Told.of(x));
    }

    /** The call answers a refusal, which is counted once, and nothing else is changed. */
    void refused(long want, ToLongFunction<TaxOnLooks> call) {
        TaxOnLooks x = x();
        is(want, call.applyAsLong(x));
        long[] ahead = Told.of(x());
        ahead[(int) (want <= -10 ? -want - 10 : -want) - 1]++;
        same(ahead, Told.of(x));
    }

    /** A text that stands: the number of its items, and no fault. */
    void reads(long items, String text) {
        TaxOnLooks x = x();
        Due.write(x, TEXT, text);
        is(items, x.town(TEXT));
        is(-1, x.fault());
    }

    /** A text with a fault: nothing of it is told, and nothing but the refusal and fault changes. */
    void faults(long place, String text) {
        TaxOnLooks x = x();
        Due.write(x, TEXT, text);
        TaxOnLooks twin = x();
        Due.write(twin, TEXT, text);
        is(-6, x.town(TEXT));
        is(place, x.fault());
        long[] ahead = Told.of(twin);
        ahead[6 - 1]++;
        ahead[Told.FAULT] = place;
        same(ahead, Told.of(x));
    }

    private void same(long[] ahead, long[] behind) {
        int differs = Arrays.mismatch(ahead, behind);
        due.is(differs < 0 ? name : name + place() + ": the first that is not as it was", differs, -1);
    }

    private String place() {
        int line = StackWalker.getInstance().walk(frames -> frames
                .filter(f -> f.getMethodName().equals(name))
                .mapToInt(StackWalker.StackFrame::getLineNumber).findFirst().orElse(0));
        return " (line " + line + ")";
    }
}
