import java.util.function.Supplier;
import java.util.function.ToIntFunction;

/**
 * A state of an object, and calls that are refused there. Each call is made on an object of its own, which then
 * has to look like a twin that was not called: so no object is asked more than 512 calls.
 */
final class Refusals {
    private final String state;
    private final Supplier<NestCells> made;

    Refusals(String state, Supplier<NestCells> made) {
        this.state = state;
        this.made = made;
    }

    Refusals argument(String call, ToIntFunction<NestCells> asked) {
        return refused(call, asked, "throws.IllegalArgumentException");
    }

    Refusals state(String call, ToIntFunction<NestCells> asked) {
        return refused(call, asked, "throws.IllegalStateException");
    }

    /** What is not refused there. */
    Refusals answers(int due, String call, ToIntFunction<NestCells> asked) {
        NestCells x = made.get();
        Check.answers(due, state + ": " + call, () -> asked.applyAsInt(x));
        return this;
    }

    private Refusals refused(String call, ToIntFunction<NestCells> asked, String exception) {
        NestCells x = made.get();
        NestCells twin = made.get();
        Check.same(state + ": " + call, Check.told(() -> asked.applyAsInt(x)), exception);
        Check.same(state + ": " + call + ", what it leaves", Check.picture(x), Check.picture(twin));
        Check.same(state + ": " + call + ", going on", goOn(x), goOn(twin));
        return this;
    }

    /** What a picture can't show: the answers of an abort, and of what then comes to the disk. */
    private static String goOn(NestCells x) {
        StringBuilder all = new StringBuilder();
        all.append(Check.told(x::abort)).append(' ');
        all.append(Check.told(x::commit)).append(' ');
        all.append(x.recover()).append(' ');
        for (int cell = 0; cell < 32; cell++) {
            all.append(x.read(cell)).append(' ');
        }
        return all.toString();
    }
}
