import java.util.function.ToIntFunction;

/**
 * A call that throws changes nothing; of several exceptions that fit the one named first is thrown. Each state in
 * which calls are refused, with every call that is, and with what is not refused while the power is OFF.
 */
public final class RefusedTest {
    private static final int[] NO_CELLS = {-1, 32, Integer.MIN_VALUE, Integer.MAX_VALUE};
    private static final int[] NO_NAMES = {-1, 10, Integer.MIN_VALUE, Integer.MAX_VALUE};
    private static final int[] NO_WORDS = {-1, 98, Integer.MIN_VALUE, Integer.MAX_VALUE};
    private static final int[] NO_LEVELS = {-1, 88, Integer.MIN_VALUE, Integer.MAX_VALUE};
    private static final int[] NO_WHATS = {-1, 7, Integer.MIN_VALUE, Integer.MAX_VALUE};

    public static void main(String[] args) {
        withoutATransaction();
        powerOff();
        powerOffWithAMark();
        notRefusedWhenOff();
        inATransaction();
        inAnInnerTransaction();
        afterPointsAreGone();
        withSixtyTraces();
        withEightTransactions();
        withAllLevels();
        Check.ended("RefusedTest");
    }

    /** What is no cell, name, word, level or number is refused so in every state, whatever else fits. */
    private static void noArguments(Refusals there) {
        each(there, NO_CELLS, "write of no cell", n -> x -> x.write(n, 1));
        each(there, NO_CELLS, "read of no cell", n -> x -> x.read(n));
        each(there, NO_NAMES, "point with no name", n -> x -> x.point(n));
        each(there, NO_NAMES, "back with no name", n -> x -> x.back(n));
        each(there, NO_NAMES, "release with no name", n -> x -> x.release(n));
        each(there, NO_WORDS, "disk of no word", n -> x -> x.disk(n));
        each(there, NO_WORDS, "spoil of no word", n -> x -> x.spoil(n, 1));
        each(there, NO_LEVELS, "traces of no level", n -> x -> x.level(n, 0));
        each(there, NO_LEVELS, "name of no level", n -> x -> x.level(n, 1));
        each(there, NO_LEVELS, "no level and no such what", n -> x -> x.level(n, n));
        each(there, NO_WHATS, "level 0, no such what", n -> x -> x.level(0, n));
        each(there, NO_WHATS, "about no such what", n -> x -> x.about(n));
        there.argument("level 0, what 2", x -> x.level(0, 2));
    }

    private interface Asked {
        ToIntFunction<NestCells> of(int n);
    }

    private static void each(Refusals there, int[] numbers, String call, Asked asked) {
        for (int n : numbers) {
            there.argument(call + ", " + n, asked.of(n));
        }
    }

    /** IllegalStateException: there is no transaction, or none. */
    private static void noTransaction(Refusals there) {
        there.state("write", x -> x.write(0, 1));
        there.state("write the last cell", x -> x.write(31, 0));
        there.state("commit", NestCells::commit);
        there.state("abort", NestCells::abort);
        there.state("point", x -> x.point(0));
        there.state("point with the last name", x -> x.point(9));
        there.state("back, no such point", x -> x.back(0));
        there.state("back with the last name", x -> x.back(9));
        there.state("release, no such point", x -> x.release(0));
        there.state("release with the last name", x -> x.release(9));
        there.argument("level 0", x -> x.level(0, 0));
        there.argument("name of level 0", x -> x.level(0, 1));
    }

    private static void withoutATransaction() {
        Refusals fresh = new Refusals("new", NestCells::new);
        noArguments(fresh);
        noTransaction(fresh);
        Refusals later = new Refusals("all ended, a crash told", RefusedTest::ended);
        noArguments(later);
        noTransaction(later);
        later.answers(5, "read", x -> x.read(0));
        later.answers(1, "begin", NestCells::begin);
    }

    private static NestCells ended() {
        NestCells x = Calls.open(2, 5);
        x.point(0);
        x.commit();
        x.commit();
        x.begin();
        x.point(9);
        x.write(31, 6);
        x.abort();
        x.crash(3);
        return x;
    }

    /** IllegalStateException: the power is OFF (all calls that say so). */
    private static void callsWhenOff(Refusals there) {
        noArguments(there);
        noTransaction(there);
        there.state("begin", NestCells::begin);
        there.state("read", x -> x.read(0));
        there.state("read the last cell", x -> x.read(31));
    }

    private static void powerOff() {
        callsWhenOff(new Refusals("off with the first write", RefusedTest::off));
    }

    private static NestCells off() {
        NestCells x = Calls.open(1, 5);
        x.commit();
        x.begin();
        x.write(31, 6);
        x.point(0);
        x.point(9);
        x.crash(1);
        x.commit();
        x.crash(2);
        return x;
    }

    private static void powerOffWithAMark() {
        callsWhenOff(new Refusals("off, a mark on the disk", RefusedTest::offWithAMark));
    }

    private static NestCells offWithAMark() {
        NestCells x = Calls.open(1, 5);
        x.write(31, 6);
        x.crash(7);
        x.commit();
        return x;
    }

    private static void notRefusedWhenOff() {
        Refusals there = new Refusals("off, a mark on the disk", RefusedTest::offWithAMark);
        there.answers(2, "disk", x -> x.disk(32));
        there.answers(2, "spoil", x -> x.spoil(32, 1));
        there.answers(1, "about", x -> x.about(5));
        there.answers(6, "about, the writes", x -> x.about(4));
        there.answers(0, "about, the points", x -> x.about(6));
        there.answers(2, "recover", NestCells::recover);
        there.answers(6, "recover and read", x -> x.recover() + x.read(31) - 2);
        there.answers(3, "crash", x -> { x.crash(3); return x.about(3); });
        there.answers(1, "crash, still off", x -> { x.crash(0); return x.about(5); });
        there.answers(0, "format", x -> { x.format(); return x.about(5) + x.disk(32) + x.recover(); });
        there.answers(1, "format and begin", x -> { x.format(); return x.begin(); });
    }

    private static void inATransaction() {
        Refusals there = new Refusals("a transaction, point 3", RefusedTest::pointed);
        noArguments(there);
        for (int n = 0; n <= 9; n++) {
            int name = n;
            if (name != 3) {
                there.argument("back, no such point, " + name, x -> x.back(name));
                there.argument("release, no such point, " + name, x -> x.release(name));
            }
        }
        there.argument("level 2", x -> x.level(2, 0));
        there.argument("name of level 2", x -> x.level(2, 1));
        there.argument("level 1, what 2", x -> x.level(1, 2));
        there.answers(3, "level 1", x -> x.level(1, 1));
        there.answers(1, "back", x -> x.back(3));
        there.answers(0, "release", x -> x.release(3));
    }

    private static NestCells pointed() {
        NestCells x = Calls.open(1, 5);
        x.point(3);
        x.write(0, 6);
        x.crash(4);
        return x;
    }

    private static void inAnInnerTransaction() {
        Refusals there = new Refusals("an inner transaction without the point", () -> {
            NestCells x = pointed();
            x.begin();
            x.write(0, 7);
            x.point(4);
            return x;
        });
        noArguments(there);
        there.argument("back to an outer one's point", x -> x.back(3));
        there.argument("release an outer one's point", x -> x.release(3));
        there.argument("level 4", x -> x.level(4, 0));
    }

    private static void afterPointsAreGone() {
        Refusals released = new Refusals("released", () -> {
            NestCells x = pointed();
            x.release(3);
            return x;
        });
        released.argument("back", x -> x.back(3));
        released.argument("release", x -> x.release(3));
        released.argument("level 1", x -> x.level(1, 0));
        Refusals back = new Refusals("gone back to an earlier one", () -> {
            NestCells x = pointed();
            x.point(7);
            x.back(3);
            return x;
        });
        back.argument("back", x -> x.back(7));
        back.argument("release", x -> x.release(7));
        back.argument("level 2", x -> x.level(2, 1));
        Refusals committed = new Refusals("the inner one's point committed", () -> {
            NestCells x = pointed();
            x.begin();
            x.point(7);
            x.commit();
            return x;
        });
        committed.argument("back", x -> x.back(7));
        committed.argument("release", x -> x.release(7));
    }

    /** Its trace would be the 61st. */
    private static void withSixtyTraces() {
        Refusals there = new Refusals("sixty traces", Calls::full);
        noArguments(there);
        for (int n = 28; n < 32; n++) {
            int cell = n;
            there.state("the 61st, cell " + cell, x -> x.write(cell, 1));
            there.state("the 61st, cell " + cell + " as it is", x -> x.write(cell, 100 + cell));
        }
        there.answers(127, "a cell that has a trace there", x -> x.write(27, 1));
    }

    private static void withEightTransactions() {
        Refusals there = new Refusals("eight transactions", () -> Calls.open(8, 5));
        noArguments(there);
        there.state("begin", NestCells::begin);
        there.argument("back, no such point", x -> x.back(0));
        there.argument("release, no such point", x -> x.release(0));
        there.argument("level 8", x -> x.level(8, 1));
        there.answers(1, "point", x -> x.point(0));
    }

    private static void withAllLevels() {
        Refusals there = new Refusals("all levels that can be", Calls::allLevels);
        noArguments(there);
        there.state("begin", NestCells::begin);
        there.answers(10, "point", x -> x.point(5));
        there.answers(9, "name of the last level", x -> x.level(87, 1));
    }
}
