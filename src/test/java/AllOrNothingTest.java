/** Wherever the power fails in the outermost commit, after recovering it is there wholly or not at all. */
public final class AllOrNothingTest {
    public static void main(String[] args) {
        for (int n = 0; n <= 32; n++) {
            int writes = n == 0 ? 1 : 3 * n + 3;
            for (int at = 1; at <= writes + 1; at++) {
                one(n, at, writes);
            }
        }
        Check.ended("AllOrNothingTest");
    }

    /** A commit of n cells over cells that are all 1000 and more, the power failing at a write. */
    private static void one(int n, int at, int writes) {
        String run = n + " cells, crash at " + at + ": ";
        NestCells x = new NestCells();
        x.begin();
        change(x, 32, 1000);
        x.commit();
        x.begin();
        x.begin();
        change(x, n, -2000);
        x.commit();
        x.crash(at);
        boolean cut = at <= writes;
        Check.answers(cut ? NestCells.NONE : 0, run + "commit", x::commit);
        boolean marked = n > 0 && at > 2 * n + 2;
        Check.answers(marked && cut ? n : 0, run + "recover", x::recover);
        for (int cell = 0; cell < 32; cell++) {
            int due = cell < n && marked ? cell - 2000 : cell + 1000;
            Check.same(run + "cell " + cell, x.read(cell), due);
            Check.same(run + "home " + cell, x.disk(cell), due);
        }
        Check.same(run + "mark", x.disk(32), 0);
        Check.same(run + "count", x.disk(33), at > 2 * n + 1 ? 2 : 1);
    }

    private static void change(NestCells x, int n, int by) {
        for (int cell = n - 1; cell >= 0; cell--) {
            x.write(cell, cell + by);
        }
    }
}
