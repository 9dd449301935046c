/** Calls that several tests make, and looks at what came of them. */
final class Calls {
    private Calls() {
    }

    /** A new object with so many transactions open, cell 0 written in the innermost one. */
    static NestCells open(int transactions, int v) {
        NestCells x = new NestCells();
        for (int i = 0; i < transactions; i++) {
            x.begin();
        }
        x.write(0, v);
        return x;
    }

    /** The power fails with the next write, whatever is open; the disk stays as it is. */
    static void off(NestCells x) {
        x.crash(1);
        if (x.about(0) == 0) {
            x.begin();
        }
        while (x.about(0) > 0) {
            x.commit();
        }
        Check.same("the power is off", x.about(5), 1);
    }

    static void emptyCommits(NestCells x, int n) {
        for (int i = 0; i < n; i++) {
            x.begin();
            x.commit();
        }
    }

    /** Cells 0 .. n - 1 become 100 and more. */
    static void writeFirst(NestCells x, int n) {
        for (int cell = 0; cell < n; cell++) {
            x.write(cell, 100 + cell);
        }
    }

    /** An object with 60 traces: 32 in its transaction's level, 28 in the next, that of point 3. */
    static NestCells full() {
        NestCells x = new NestCells();
        x.begin();
        writeFirst(x, 32);
        x.point(3);
        writeFirst(x, 28);
        return x;
    }

    /** An object with 88 levels: 8 transactions, each with ten points. */
    static NestCells allLevels() {
        NestCells x = new NestCells();
        for (int t = 0; t < 8; t++) {
            x.begin();
            for (int name = 0; name <= 9; name++) {
                x.point(name);
            }
        }
        return x;
    }

    static String levels(NestCells x) {
        StringBuilder all = new StringBuilder();
        int levels = x.about(1);
        for (int i = 0; i < levels; i++) {
            all.append(x.level(i, 1)).append(':').append(x.level(i, 0)).append(' ');
        }
        return all.toString();
    }

    static String cells(NestCells x, int... asked) {
        StringBuilder all = new StringBuilder();
        for (int cell : asked) {
            all.append(x.read(cell)).append(' ');
        }
        return all.toString();
    }

    static String words(NestCells x, int... asked) {
        StringBuilder all = new StringBuilder();
        for (int word : asked) {
            all.append(x.disk(word)).append(' ');
        }
        return all.toString();
    }
}
