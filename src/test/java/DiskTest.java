import java.util.ArrayList;
import java.util.List;

/**
 * The sentences about what the disk keeps: COMMITTING the outermost transaction, a CRASH, RECOVERING. A test for
 * each one that names an edge. No object is asked more than 512 calls.
 */
public final class DiskTest {
    /** The cells of one commit: how many there are, and which, rising. */
    private static final int[][] COMMITS = {{}, {0}, {31}, {0, 31}, {3, 9, 17}, allBut(5), allBut(-1)};
    private static final int[] OTHER_MARKS = {33, 34, 64, 98, 256, 257, 65537, -1, -32, Integer.MIN_VALUE,
        Integer.MIN_VALUE + 1, Integer.MAX_VALUE};
    private static final int[] NO_CELLS = {-1, 32, 33, 64, 97, -31, Integer.MIN_VALUE, Integer.MAX_VALUE};

    public static void main(String[] args) {
        wordIsTheHomeOfItsCell();
        entriesAndTheirCells();
        aCrashWithEachWrite();
        entriesHoldWhatCellsAreNow();
        entriesAreThoseOfCellsWithATrace();
        withNoTraceOnlyWord33IsWritten();
        word33CountsOutermostCommits();
        word33Wraps();
        noCrashWithNBelow1();
        aCrashToldAgain();
        aCrashComesNearerWithEachWrite();
        aCrashInALaterCommit();
        theLastWriteAndTheOneAfterIt();
        afterTheCrash();
        recoveringFromMarks1To32();
        recoveringFromMark0();
        recoveringFromOtherMarks();
        entriesThatAreNoCells();
        entriesInOrder();
        recoveringCannotBeCutOff();
        recoveringWithThePowerOn();
        recoveringTwice();
        theCellsAreTheirHomes();
        spoilingWhileThePowerIsOff();
        writesInAll();
        Check.ended("DiskTest");
    }

    private static int[] allBut(int cell) {
        int[] all = new int[cell < 0 ? 32 : 31];
        for (int i = 0; i < all.length; i++) {
            all[i] = cell >= 0 && i >= cell ? i + 1 : i;
        }
        return all;
    }

    /** Word a (0 .. 31) is cell a's HOME. */
    private static void wordIsTheHomeOfItsCell() {
        for (int cell = 0; cell < 32; cell++) {
            NestCells x = new NestCells();
            x.begin();
            x.write(cell, -7);
            Check.answers(0, "commit cell " + cell, x::commit);
            for (int home = 0; home < 32; home++) {
                Check.same("home " + home, x.disk(home), home == cell ? -7 : 0);
            }
            Check.same("its entry, no other", Calls.words(x, 34, 35, 36, 37), cell + " -7 0 0 ");
        }
    }

    /** ENTRY j: the words 34 + 2 j and 35 + 2 j; cells rising. */
    private static void entriesAndTheirCells() {
        NestCells x = new NestCells();
        x.begin();
        for (int cell = 31; cell >= 0; cell--) {
            x.write(cell, 1000 + cell);
        }
        x.commit();
        for (int j = 0; j < 32; j++) {
            Check.same("entry " + j, Calls.words(x, 34 + 2 * j, 35 + 2 * j), j + " " + (1000 + j) + " ");
        }
        Check.same("mark, count", Calls.words(x, 32, 33), "0 1 ");
        Check.same("writes", x.about(4), 64 + 1 + 1 + 32 + 1);
    }

    /** What a commit writes, in the order of the document: words and what they become. */
    private static List<int[]> writesDue(int[] cells, int countBefore) {
        List<int[]> all = new ArrayList<>();
        for (int cell : cells) {
            all.add(new int[] {34 + all.size(), cell});
            all.add(new int[] {34 + all.size(), 500 - cell});
        }
        all.add(new int[] {33, countBefore + 1});
        if (cells.length > 0) {
            all.add(new int[] {32, cells.length});
            for (int cell : cells) {
                all.add(new int[] {cell, 500 - cell});
            }
            all.add(new int[] {32, 0});
        }
        return all;
    }

    /** A CRASH told to come with the n-th write: that one and all later ones don't happen. */
    private static void aCrashWithEachWrite() {
        for (int[] cells : COMMITS) {
            int writes = writesDue(cells, 0).size();
            Check.same("writes of a commit", writes, cells.length == 0 ? 1 : 3 * cells.length + 3);
            for (int n = 1; n <= writes + 1; n++) {
                oneCrash(cells, n, writes);
            }
        }
    }

    private static void oneCrash(int[] cells, int n, int writes) {
        String run = cells.length + " cells, crash " + n + ": ";
        NestCells x = new NestCells();
        x.spoil(33, 40);
        x.begin();
        for (int i = cells.length - 1; i >= 0; i--) {
            x.write(cells[i], 500 - cells[i]);
        }
        x.crash(n);
        boolean cut = n <= writes;
        Check.answers(cut ? NestCells.NONE : 0, run + "commit", x::commit);
        int[] due = new int[98];
        due[33] = 40;
        for (int[] write : writesDue(cells, 40).subList(0, n - 1)) {
            due[write[0]] = write[1];
        }
        for (int word = 0; word < 98; word++) {
            Check.same(run + "word " + word, x.disk(word), due[word]);
        }
        Check.same(run + "writes that happened", x.about(4), n - 1);
        Check.same(run + "off, or a crash told still", x.about(5) + " " + x.about(3), cut ? "1 0" : "0 1");
        Check.same(run + "no transactions", Calls.levels(x) + x.about(0) + x.about(2) + x.about(6), "000");
        int homes = due[32];
        Check.answers(homes, run + "recover", x::recover);
        boolean there = cells.length > 0 && n > 2 * cells.length + 2;
        for (int cell : cells) {
            Check.same(run + "cell " + cell, x.read(cell), there ? 500 - cell : 0);
        }
        Check.same(run + "writes with recovering", x.about(4), n - 1 + (homes > 0 ? homes + 1 : 0));
        Check.same(run + "mark, power, crash", x.disk(32) + x.about(5) + x.about(3), 0);
    }

    /** .. what they are now: the latest of all levels, an entry a cell. */
    private static void entriesHoldWhatCellsAreNow() {
        NestCells x = Calls.open(1, 5);
        x.point(0);
        x.write(0, 6);
        x.write(8, 1);
        x.begin();
        x.point(1);
        x.write(0, 7);
        x.write(4, 2);
        x.commit();
        x.write(8, 9);
        Check.answers(0, "commit", x::commit);
        Check.same("entries", Calls.words(x, 34, 35, 36, 37, 38, 39, 40), "0 7 4 2 8 9 0 ");
        Check.same("homes", Calls.words(x, 0, 4, 8), "7 2 9 ");
        Check.same("writes", x.about(4), 12);
    }

    /** With a trace of n cells: those whose traces are gone have no entry; those that are as before have one. */
    private static void entriesAreThoseOfCellsWithATrace() {
        NestCells x = new NestCells();
        x.begin();
        x.write(7, 0);
        x.point(1);
        x.write(1, 1);
        x.back(1);
        x.begin();
        x.write(2, 2);
        x.abort();
        Check.answers(0, "commit", x::commit);
        Check.same("the entry of a cell that is as before", Calls.words(x, 34, 35, 36, 37), "7 0 0 0 ");
        Check.same("no other home", Calls.words(x, 1, 2), "0 0 ");
        Check.same("writes", x.about(4), 6);
    }

    /** With no trace only word 33 is written. */
    private static void withNoTraceOnlyWord33IsWritten() {
        NestCells x = Calls.open(1, 5);
        x.commit();
        x.begin();
        x.point(3);
        x.write(0, 6);
        x.back(3);
        x.begin();
        x.commit();
        Check.answers(0, "commit with points, with no trace", x::commit);
        Check.same("word 33 alone", Calls.words(x, 0, 32, 33, 34, 35) + x.about(4), "5 0 2 0 5 7");
        x.spoil(32, 1);
        x.begin();
        Check.answers(0, "commit over a spoiled mark", x::commit);
        Check.same("the mark is not written", Calls.words(x, 32, 33) + x.about(4), "1 3 8");
        x.begin();
        x.crash(2);
        Check.answers(0, "commit, a crash told for the write after it", x::commit);
        x.begin();
        Check.answers(NestCells.NONE, "that write", x::commit);
        Check.same("it did not happen", Calls.words(x, 33) + x.about(4), "4 9");
    }

    /** Word 33 counts outermost commits that came so far (also one whose MARK a crash cut off). */
    private static void word33CountsOutermostCommits() {
        NestCells x = Calls.open(2, 5);
        x.commit();
        Check.same("not an inner one", x.disk(33), 0);
        x.commit();
        Check.same("the outermost one", x.disk(33), 1);
        x.begin();
        x.write(0, 6);
        x.abort();
        Check.same("not an abort", x.disk(33), 1);
        cutOff(x, 3);
        Check.same("not one that a crash cut off before", x.disk(33), 1);
        cutOff(x, 4);
        Check.same("also one whose mark a crash cut off", x.disk(33), 2);
        cutOff(x, 5);
        Check.same("one whose home a crash cut off", x.disk(33), 3);
        x.recover();
        Check.same("recovering is no commit", x.disk(33), 3);
    }

    /** A commit of cell 9 alone, with the power failing at its n-th write. */
    private static void cutOff(NestCells x, int n) {
        x.recover();
        x.begin();
        x.write(9, 90 + n);
        x.crash(n);
        Check.answers(NestCells.NONE, "commit cut off at " + n, x::commit);
    }

    /** .. one more (as an int that wraps). */
    private static void word33Wraps() {
        int[] counts = {Integer.MAX_VALUE, Integer.MAX_VALUE - 1, -1, -2, Integer.MIN_VALUE, 0};
        for (int count : counts) {
            NestCells x = new NestCells();
            x.spoil(33, count);
            x.begin();
            x.commit();
            Check.same("one more than " + count, x.disk(33), count + 1);
            x.spoil(33, count);
            x.begin();
            x.write(2, 3);
            x.commit();
            Check.same("one more than " + count + ", with a trace", x.disk(33), count + 1);
        }
    }

    /** None with n below 1. */
    private static void noCrashWithNBelow1() {
        int[] none = {0, -1, -2, Integer.MIN_VALUE, Integer.MIN_VALUE + 1};
        for (int n : none) {
            NestCells x = new NestCells();
            x.crash(n);
            Check.same("none told with " + n, x.about(3), 0);
            x.crash(1);
            x.crash(n);
            Check.same("none told any more with " + n, x.about(3), 0);
            x.begin();
            x.write(0, 1);
            Check.answers(0, "commit", x::commit);
            Check.same("the power is on, none told", x.about(5) + x.about(3), 0);
        }
    }

    /** A CRASH is told to come with the n-th write from now on: told again, the later one. */
    private static void aCrashToldAgain() {
        NestCells x = new NestCells();
        x.crash(1);
        x.crash(3);
        Check.same("later than told at first", x.about(3), 3);
        Calls.emptyCommits(x, 2);
        x.crash(2);
        Check.same("from now on", x.about(3), 2);
        Calls.emptyCommits(x, 1);
        x.crash(9);
        x.crash(1);
        x.begin();
        Check.answers(NestCells.NONE, "sooner than told at first", x::commit);
        Check.same("three writes happened", x.about(4), 3);
    }

    private static void aCrashComesNearerWithEachWrite() {
        NestCells x = new NestCells();
        x.crash(Integer.MAX_VALUE);
        Check.same("the farthest", x.about(3), Integer.MAX_VALUE);
        Calls.emptyCommits(x, 1);
        Check.same("nearer by one", x.about(3), Integer.MAX_VALUE - 1);
        x.begin();
        x.write(0, 1);
        x.point(2);
        x.write(0, 2);
        x.back(2);
        x.release(2);
        x.begin();
        x.commit();
        x.begin();
        x.abort();
        x.spoil(5, 5);
        Check.same("no writes are those", x.about(3), Integer.MAX_VALUE - 1);
        x.commit();
        Check.same("six are these", x.about(3), Integer.MAX_VALUE - 7);
    }

    private static void aCrashInALaterCommit() {
        NestCells x = new NestCells();
        x.crash(8);
        x.begin();
        x.write(0, 1);
        Check.answers(0, "a commit of six writes", x::commit);
        Check.same("two are left", x.about(3), 2);
        x.begin();
        x.write(1, 2);
        Check.answers(NestCells.NONE, "the crash comes in the next one", x::commit);
        Check.same("with its second write", Calls.words(x, 34, 35, 32, 33) + x.about(4), "1 1 0 1 7");
    }

    private static void theLastWriteAndTheOneAfterIt() {
        NestCells x = Calls.open(1, 5);
        x.crash(6);
        Check.answers(NestCells.NONE, "a crash with the last write", x::commit);
        Check.same("the home is written, the mark stays", Calls.words(x, 0, 32) + x.about(5), "5 1 1");
        NestCells y = Calls.open(1, 5);
        y.crash(7);
        Check.answers(0, "a crash with the write after it", y::commit);
        Check.same("it is told still", Calls.words(y, 0, 32) + y.about(5) + y.about(3), "5 0 01");
    }

    /** The power is OFF: no transactions, no cells. */
    private static void afterTheCrash() {
        NestCells x = Calls.open(1, 5);
        x.point(3);
        x.crash(1);
        x.commit();
        int[] due = {0, 0, 0, 0, 0, 1, 0};
        for (int what = 0; what <= 6; what++) {
            Check.same("about " + what, x.about(what), due[what]);
        }
        Check.argument("no level", () -> x.level(0, 1));
        for (int cell = 0; cell < 32; cell++) {
            int asked = cell;
            Check.state("no cell " + cell, () -> x.read(asked));
        }
        Check.state("no transaction can begin", x::begin);
        x.recover();
        Check.same("as it was on the disk", Calls.cells(x, 0) + x.about(5), "0 0");
        Check.answers(1, "begin after recovering", x::begin);
    }

    /** A disk whose entries j tell cell 31 - j and 1000 + j, and whose mark is as told. */
    private static NestCells spoiled(int mark) {
        NestCells x = new NestCells();
        for (int j = 0; j < 32; j++) {
            x.spoil(34 + 2 * j, 31 - j);
            x.spoil(35 + 2 * j, 1000 + j);
        }
        x.spoil(32, mark);
        return x;
    }

    /** If the MARK is 1 .. 32 the entries 0 .. MARK - 1 are written, then the MARK 0. */
    private static void recoveringFromMarks1To32() {
        for (int mark = 1; mark <= 32; mark++) {
            NestCells x = spoiled(mark);
            Check.answers(mark, "recover from mark " + mark, x::recover);
            for (int cell = 0; cell < 32; cell++) {
                int due = 31 - cell < mark ? 1031 - cell : 0;
                Check.same("home and cell " + cell, x.disk(cell) + " " + x.read(cell), due + " " + due);
            }
            Check.same("mark, count, writes", Calls.words(x, 32, 33) + x.about(4), "0 0 " + (mark + 1));
            Check.same("the entries stay", Calls.words(x, 34, 35, 96, 97), "31 1000 0 1031 ");
        }
    }

    private static void recoveringFromMark0() {
        NestCells x = spoiled(0);
        Check.answers(0, "recover from mark 0", x::recover);
        for (int cell = 0; cell < 32; cell++) {
            Check.same("home and cell " + cell, x.disk(cell) + " " + x.read(cell), "0 0");
        }
        Check.same("no write", Calls.words(x, 32, 33) + x.about(4), "0 0 0");
    }

    /** Other MARKS become 0. */
    private static void recoveringFromOtherMarks() {
        for (int mark : OTHER_MARKS) {
            NestCells x = spoiled(mark);
            Check.answers(0, "recover from mark " + mark, x::recover);
            for (int cell = 0; cell < 32; cell++) {
                Check.same("home and cell " + cell, x.disk(cell) + " " + x.read(cell), "0 0");
            }
            Check.same("it becomes 0, a write", Calls.words(x, 32, 33) + x.about(4), "0 0 1");
        }
    }

    /** Those that are no cells are passed over. */
    private static void entriesThatAreNoCells() {
        for (int none : NO_CELLS) {
            NestCells x = spoiled(3);
            x.spoil(36, none);
            Check.answers(2, "recover, an entry of " + none, x::recover);
            Check.same("the homes of the others", Calls.words(x, 31, 30, 29, 28), "1000 0 1002 0 ");
            Check.same("the mark, the count", Calls.words(x, 32, 33) + x.about(4), "0 0 3");
        }
        NestCells y = new NestCells();
        for (int i = 0; i < 32; i++) {
            y.spoil(34 + 2 * i, NO_CELLS[i % NO_CELLS.length]);
            y.spoil(35 + 2 * i, 5);
        }
        y.spoil(32, 32);
        Check.answers(0, "recover, no entry of a cell", y::recover);
        Check.same("no home, the mark alone", y.about(4), 1);
        for (int word = 0; word < 34; word++) {
            Check.same("word " + word, y.disk(word), 0);
        }
    }

    /** The entries, in order: of two for one cell the later one stands. */
    private static void entriesInOrder() {
        NestCells x = spoiled(32);
        x.spoil(34, 5);
        x.spoil(96, 5);
        x.recover();
        Check.same("the last of them stands", Calls.cells(x, 5, 0, 31), "1031 0 0 ");
    }

    /** The power is on then, no crash is told (these writes can't be cut off). */
    private static void recoveringCannotBeCutOff() {
        for (int n = 1; n <= 5; n++) {
            NestCells x = spoiled(3);
            x.crash(n);
            Check.answers(3, "recover with a crash told for write " + n, x::recover);
            Check.same("homes, mark", Calls.words(x, 31, 30, 29, 32), "1000 1001 1002 0 ");
            Check.same("the power, the crash, the writes", x.about(5) + " " + x.about(3) + " " + x.about(4), "0 0 4");
            NestCells y = Calls.open(1, 5);
            y.crash(5);
            y.commit();
            y.crash(n);
            Check.answers(1, "recover, told when off, for write " + n, y::recover);
            Check.same("home, mark", Calls.words(y, 0, 32) + y.about(5) + y.about(3) + y.about(4), "5 0 006");
            Calls.emptyCommits(y, 6);
            Check.same("no crash comes later", y.about(5) + y.disk(33), 7);
        }
    }

    /** Also with the power on: then as if it had just failed. */
    private static void recoveringWithThePowerOn() {
        NestCells x = Calls.open(1, 5);
        x.commit();
        for (int t = 0; t < 8; t++) {
            x.begin();
            x.point(t);
            x.write(t, 50 + t);
        }
        x.crash(30);
        Check.answers(0, "recover in eight transactions", x::recover);
        int[] due = {0, 0, 0, 0, 6, 0, 0};
        for (int what = 0; what <= 6; what++) {
            Check.same("about " + what, x.about(what), due[what]);
        }
        Check.same("the cells are their homes", Calls.cells(x, 0, 1, 7), "5 0 0 ");
        Check.state("no transaction is there", x::commit);
        Check.argument("no level is there", () -> x.level(0, 0));
        Check.answers(1, "begin", x::begin);
        Check.answers(0, "abort, with no trace", x::abort);
    }

    private static void recoveringTwice() {
        NestCells x = spoiled(2);
        x.recover();
        x.begin();
        x.write(31, 7);
        x.commit();
        Check.answers(0, "recover, the mark is 0", x::recover);
        Check.same("no home is written again", Calls.cells(x, 31, 30), "7 1001 ");
    }

    /** The cells are their homes. */
    private static void theCellsAreTheirHomes() {
        NestCells x = new NestCells();
        for (int cell = 0; cell < 32; cell++) {
            x.spoil(cell, Integer.MIN_VALUE + cell);
        }
        Check.same("cells stay when a word is spoiled", Calls.cells(x, 0, 31), "0 0 ");
        x.recover();
        for (int cell = 0; cell < 32; cell++) {
            Check.same("cell " + cell, x.read(cell), Integer.MIN_VALUE + cell);
        }
        Check.same("no writes", x.about(4), 0);
    }

    /** Word i of the disk becomes v, whether the power is on or OFF. */
    private static void spoilingWhileThePowerIsOff() {
        NestCells x = Calls.open(1, 5);
        x.crash(5);
        x.commit();
        Check.answers(1, "the mark is spoiled", () -> x.spoil(32, 2));
        Check.answers(0, "a cell", () -> x.spoil(36, 4));
        Check.answers(0, "what it becomes", () -> x.spoil(37, 44));
        Check.answers(5, "a word", () -> x.disk(35));
        Check.answers(2, "recover", x::recover);
        Check.same("homes", Calls.cells(x, 0, 4) + x.about(4), "5 44 7");
    }

    /** Writes in all that happened, by commits and recovering. */
    private static void writesInAll() {
        NestCells x = Calls.open(2, 5);
        x.spoil(50, 5);
        x.commit();
        Check.same("none by an inner commit or spoiling", x.about(4), 0);
        x.commit();
        Check.same("by a commit", x.about(4), 6);
        x.begin();
        x.write(0, 6);
        x.crash(6);
        x.commit();
        Check.same("not the one that did not happen", x.about(4), 11);
        x.recover();
        Check.same("by recovering", x.about(4), 13);
        x.format();
        Check.same("as at first", x.about(4), 0);
    }
}
