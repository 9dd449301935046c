import java.util.Arrays;

/**
 * Cells of memory that are changed in transactions, one in the other, with points to go back to,
 * and kept on a disk. The words in the comments (level, trace, mark, home) are those of the document.
 */
public final class NestCells {
    public static final int NONE = -1;

    private static final int CELLS = 32;
    private static final int WORDS = 98;
    private static final int MARK = 32;
    private static final int COMMITS = 33;
    private static final int ENTRIES = 34;
    private static final int MOST_ENTRIES = 32;
    private static final int MOST_TRANSACTIONS = 8;
    private static final int NAMES = 10;
    // A name stands only once in a transaction, so this many levels is all that can be.
    private static final int MOST_LEVELS = MOST_TRANSACTIONS * (1 + NAMES);
    private static final int MOST_TRACES = 60;

    private final int[] words = new int[WORDS];
    private final int[] cells = new int[CELLS];
    private final int[] levelName = new int[MOST_LEVELS];
    // Only the latest level gets new traces, so these stay sorted by level, the outermost first.
    private final int[] traceLevel = new int[MOST_TRACES];
    private final int[] traceCell = new int[MOST_TRACES];
    private final int[] traceWas = new int[MOST_TRACES];
    private int transactions;
    private int levels;
    private int traces;
    private int writesTillCrash;
    private int writesInAll;
    private boolean off;

    public NestCells() {
    }

    public void format() {
        Arrays.fill(words, 0);
        Arrays.fill(cells, 0);
        forgetTransactions();
        writesTillCrash = 0;
        writesInAll = 0;
        off = false;
    }

    public int begin() throws IllegalStateException {
        needPower();
        if (transactions == MOST_TRANSACTIONS) {
            throw new IllegalStateException("there are 8 transactions");
        }
        openLevel(NONE);
        transactions++;
        return transactions;
    }

    public int write(int cell, int v) throws IllegalArgumentException, IllegalStateException {
        needCell(cell);
        needTransaction();
        int open = levels - 1;
        if (!holds(tracedCells(open), cell)) {
            if (traces == MOST_TRACES) {
                throw new IllegalStateException("there are 60 traces");
            }
            leaveTrace(open, cell);
        }
        int was = cells[cell];
        cells[cell] = v;
        return was;
    }

    public int read(int cell) throws IllegalArgumentException, IllegalStateException {
        needCell(cell);
        needPower();
        return cells[cell];
    }

    public int commit() throws IllegalStateException {
        needTransaction();
        int first = innermostLevel();
        for (int i = levels - 1; i > first; i--) {
            foldLevel(i);
        }
        if (transactions > 1) {
            foldLevel(first);
            transactions--;
            return transactions;
        }
        keepOnDisk();
        forgetTransactions();
        return off ? NONE : 0;
    }

    public int abort() throws IllegalStateException {
        needTransaction();
        int gone = goBack(innermostLevel());
        transactions--;
        return gone;
    }

    public int point(int name) throws IllegalArgumentException, IllegalStateException {
        needName(name);
        needTransaction();
        int earlier = pointLevel(name);
        if (earlier != NONE) {
            foldLevel(earlier);
        }
        openLevel(name);
        return points();
    }

    public int back(int name) throws IllegalArgumentException, IllegalStateException {
        needName(name);
        needTransaction();
        int gone = goBack(needPoint(name));
        openLevel(name);
        return gone;
    }

    public int release(int name) throws IllegalArgumentException, IllegalStateException {
        needName(name);
        needTransaction();
        foldLevel(needPoint(name));
        return points();
    }

    public void crash(int n) {
        writesTillCrash = n < 1 ? 0 : n;
    }

    public int recover() {
        forgetTransactions();
        writesTillCrash = 0;
        off = false;
        int homes = 0;
        if (words[MARK] >= 1 && words[MARK] <= MOST_ENTRIES) {
            homes = writeHomesFromEntries(words[MARK]);
        }
        // A MARK that is 0 already does not become 0, so nothing is written.
        if (words[MARK] != 0) {
            putWord(MARK, 0);
        }
        System.arraycopy(words, 0, cells, 0, CELLS);
        return homes;
    }

    public int disk(int i) throws IllegalArgumentException {
        needWord(i);
        return words[i];
    }

    public int spoil(int i, int v) throws IllegalArgumentException {
        needWord(i);
        int was = words[i];
        words[i] = v;
        return was;
    }

    public int level(int i, int what) throws IllegalArgumentException {
        if (i < 0 || i >= levels) {
            throw new IllegalArgumentException("no such level");
        }
        switch (what) {
            case 0: return Integer.bitCount(tracedCells(i));
            case 1: return levelName[i];
            default: throw new IllegalArgumentException("what is 0 or 1");
        }
    }

    public int about(int what) throws IllegalArgumentException {
        switch (what) {
            case 0: return transactions;
            case 1: return levels;
            case 2: return traces;
            case 3: return writesTillCrash;
            case 4: return writesInAll;
            case 5: return off ? 1 : 0;
            case 6: return points();
            default: throw new IllegalArgumentException("what is 0 to 6");
        }
    }

    private void needPower() {
        if (off) {
            throw new IllegalStateException("the power is off");
        }
    }

    private void needTransaction() {
        needPower();
        if (transactions == 0) {
            throw new IllegalStateException("there is no transaction");
        }
    }

    private void needCell(int cell) {
        if (!isCell(cell)) {
            throw new IllegalArgumentException("no such cell");
        }
    }

    private void needWord(int i) {
        if (i < 0 || i >= WORDS) {
            throw new IllegalArgumentException("no such word");
        }
    }

    private void needName(int name) {
        if (name < 0 || name >= NAMES) {
            throw new IllegalArgumentException("no such name");
        }
    }

    /** The level of a point that must be there. */
    private int needPoint(int name) {
        int level = pointLevel(name);
        if (level == NONE) {
            throw new IllegalArgumentException("no such point");
        }
        return level;
    }

    private static boolean isCell(int cell) {
        return cell >= 0 && cell < CELLS;
    }

    /** Whether a set of cells, a bit each, has this one. */
    private static boolean holds(int set, int cell) {
        return (set >>> cell & 1) != 0;
    }

    private void forgetTransactions() {
        transactions = 0;
        levels = 0;
        traces = 0;
    }

    private void openLevel(int name) {
        levelName[levels] = name;
        levels++;
    }

    /** The level with which the innermost transaction begins, NONE if there is none. */
    private int innermostLevel() {
        int i = levels - 1;
        while (i >= 0 && levelName[i] != NONE) {
            i--;
        }
        return i;
    }

    /** How many points the innermost transaction has. */
    private int points() {
        return levels - 1 - innermostLevel();
    }

    /** The level of a point of the innermost transaction, NONE if it has no such point. */
    private int pointLevel(int name) {
        int first = innermostLevel();
        for (int i = levels - 1; i > first; i--) {
            if (levelName[i] == name) {
                return i;
            }
        }
        return NONE;
    }

    /** The cells that have a trace in a level, a bit each. */
    private int tracedCells(int level) {
        int set = 0;
        for (int t = 0; t < traces; t++) {
            if (traceLevel[t] == level) {
                set |= 1 << traceCell[t];
            }
        }
        return set;
    }

    private void leaveTrace(int level, int cell) {
        traceLevel[traces] = level;
        traceCell[traces] = cell;
        traceWas[traces] = cells[cell];
        traces++;
    }

    /** A level that is not the outermost goes up in the one before it, and later ones move down. */
    private void foldLevel(int level) {
        int tracedBefore = tracedCells(level - 1);
        int kept = 0;
        for (int t = 0; t < traces; t++) {
            // The level before was there first: what it tells of a cell is older.
            if (traceLevel[t] != level || !holds(tracedBefore, traceCell[t])) {
                traceLevel[kept] = traceLevel[t] < level ? traceLevel[t] : traceLevel[t] - 1;
                traceCell[kept] = traceCell[t];
                traceWas[kept] = traceWas[t];
                kept++;
            }
        }
        traces = kept;
        for (int i = level + 1; i < levels; i++) {
            levelName[i - 1] = levelName[i];
        }
        levels--;
    }

    /** Back over this level and all later ones, the latest first: how many traces are gone. */
    private int goBack(int level) {
        int gone = 0;
        while (traces > 0 && traceLevel[traces - 1] >= level) {
            traces--;
            cells[traceCell[traces]] = traceWas[traces];
            gone++;
        }
        levels = level;
        return gone;
    }

    /** The writes of the outermost commit, when only its own level is left. */
    private void keepOnDisk() {
        int traced = tracedCells(0);
        int n = Integer.bitCount(traced);
        writeEntries(traced);
        putWord(COMMITS, words[COMMITS] + 1);
        if (n > 0) {
            putWord(MARK, n);
            writeHomes(traced);
            putWord(MARK, 0);
        }
    }

    private void writeEntries(int traced) {
        int word = ENTRIES;
        for (int cell = 0; cell < CELLS; cell++) {
            if (holds(traced, cell)) {
                putWord(word, cell);
                putWord(word + 1, cells[cell]);
                word += 2;
            }
        }
    }

    private void writeHomes(int traced) {
        for (int cell = 0; cell < CELLS; cell++) {
            if (holds(traced, cell)) {
                putWord(cell, cells[cell]);
            }
        }
    }

    /** Entries may be spoiled, so their cells are looked at: how many homes were written. */
    private int writeHomesFromEntries(int n) {
        int homes = 0;
        for (int j = 0; j < n; j++) {
            int cell = words[ENTRIES + 2 * j];
            if (isCell(cell)) {
                putWord(cell, words[ENTRIES + 2 * j + 1]);
                homes++;
            }
        }
        return homes;
    }

    /** One write of a word, unless the power is off or the told crash comes with it. */
    private void putWord(int word, int v) {
        if (off) {
            return;
        }
        if (writesTillCrash == 1) {
            writesTillCrash = 0;
            off = true;
            return;
        }
        if (writesTillCrash > 1) {
            writesTillCrash--;
        }
        words[word] = v;
        writesInAll++;
    }
}
