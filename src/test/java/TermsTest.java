/**
 * The sentences under 'Terms' about cells, words, transactions, points, levels and traces: a test for each one
 * that names an edge. No object is asked more than 512 calls. What the disk keeps is DiskTest's.
 */
public final class TermsTest {
    private static final int[] NUMBERS = {0, 1, -1, Integer.MAX_VALUE, Integer.MIN_VALUE};

    public static void main(String[] args) {
        cellsAre0To31();
        cellsAreInts();
        wordsAre0To97();
        wordsAreInts();
        allIsZeroAtFirst();
        eightDeepAtMost();
        roomForATransaction();
        namesAre0To9();
        pointsStandInTheOrderInWhichTheyWereSet();
        aNameSetAgainMoves();
        aNameSetAgainAmongTen();
        aNameSetAgainIsReleasedFirst();
        aNameIsSetAgainInThatTransactionAlone();
        aLevelBeginsWithATransactionOrAPoint();
        theLatestLevelIsOpen();
        aCellWrittenForTheFirstTimeLeavesATrace();
        aTraceTellsWhatTheCellWas();
        sixtyTraces();
        theSixtyFirstTrace();
        roomForATrace();
        noRoomForATrace();
        goingBack();
        goingBackToTheEarliestAndTheLatestPoint();
        goingBackOverCommittedTransactions();
        afterGoingBack();
        releasing();
        releasingOverTracesThatAreThere();
        releasingTheOnlyPoint();
        committing();
        committingReleasesPointsFirst();
        committingAllEight();
        aborting();
        abortingAllEight();
        theLastOf512Calls();
        Check.ended("TermsTest");
    }

    /** CELLS are 0 .. 31. */
    private static void cellsAre0To31() {
        for (int cell = 0; cell < 32; cell++) {
            int asked = cell;
            NestCells x = new NestCells();
            x.begin();
            Check.answers(0, "write cell " + cell, () -> x.write(asked, 7));
            for (int other = 0; other < 32; other++) {
                int looked = other;
                Check.answers(other == cell ? 7 : 0, "cell " + other, () -> x.read(looked));
            }
        }
        int[] none = {-1, 32, -32, 33, 63, 64, 97, Integer.MIN_VALUE, Integer.MAX_VALUE};
        NestCells y = new NestCells();
        y.begin();
        for (int cell : none) {
            Check.argument("write cell " + cell, () -> y.write(cell, 7));
            Check.argument("read cell " + cell, () -> y.read(cell));
        }
    }

    /** CELLS are ints. */
    private static void cellsAreInts() {
        NestCells x = new NestCells();
        x.begin();
        int was = 0;
        for (int v : NUMBERS) {
            Check.answers(was, "write " + v, () -> x.write(31, v));
            Check.answers(v, "read " + v, () -> x.read(31));
            was = v;
        }
    }

    /** THE DISK has words 0 .. 97. */
    private static void wordsAre0To97() {
        for (int word = 0; word < 98; word++) {
            int asked = word;
            NestCells x = new NestCells();
            Check.answers(0, "spoil word " + word, () -> x.spoil(asked, 7));
            for (int other = 0; other < 98; other++) {
                int looked = other;
                Check.answers(other == word ? 7 : 0, "word " + other, () -> x.disk(looked));
            }
        }
        int[] none = {-1, 98, 99, 128, Integer.MIN_VALUE, Integer.MAX_VALUE};
        NestCells y = new NestCells();
        for (int word : none) {
            Check.argument("spoil word " + word, () -> y.spoil(word, 7));
            Check.argument("word " + word, () -> y.disk(word));
        }
    }

    /** The words are ints. */
    private static void wordsAreInts() {
        NestCells x = new NestCells();
        int was = 0;
        for (int v : NUMBERS) {
            Check.answers(was, "spoil with " + v, () -> x.spoil(97, v));
            Check.answers(v, "word " + v, () -> x.disk(97));
            was = v;
        }
    }

    /** Cells and disk are zeros, the power is on; format: as at first. */
    private static void allIsZeroAtFirst() {
        NestCells fresh = new NestCells();
        Check.same("at first", Check.picture(fresh), zeros());
        NestCells x = Calls.open(8, 5);
        x.point(9);
        x.spoil(32, 3);
        x.crash(2);
        x.format();
        Check.same("format with all open", Check.picture(x), zeros());
        NestCells y = Calls.open(1, 5);
        y.crash(5);
        y.commit();
        Check.same("off, a mark on the disk", Calls.words(y, 32) + y.about(5), "1 1");
        y.format();
        Check.same("format when off", Check.picture(y), zeros());
        Check.answers(0, "recover after format", y::recover);
        Check.same("there was nothing to recover", Check.picture(y), zeros());
    }

    /** What Check.picture tells of an object that is all zeros. */
    private static String zeros() {
        return "0 ".repeat(7) + "levels cells " + "0 ".repeat(32) + "disk " + "0 ".repeat(98);
    }

    /** TRANSACTIONS lie one in the other, 8 deep at most. */
    private static void eightDeepAtMost() {
        NestCells x = new NestCells();
        for (int due = 1; due <= 8; due++) {
            Check.answers(due, "begin", x::begin);
            Check.same("how many there are", x.about(0), due);
        }
        Check.state("the ninth", x::begin);
        Check.state("the ninth, again", x::begin);
        Check.same("eight with a level each", Calls.levels(x) + x.about(0), "-1:0 ".repeat(8) + "8");
    }

    /** Room for a transaction is there when one has ended. */
    private static void roomForATransaction() {
        NestCells x = Calls.open(8, 5);
        x.commit();
        Check.answers(8, "begin after a commit", x::begin);
        x.abort();
        Check.answers(8, "begin after an abort", x::begin);
        Check.state("the ninth", x::begin);
        x.recover();
        Check.answers(1, "begin after recover", x::begin);
        x.format();
        Check.answers(1, "begin after format", x::begin);
    }

    /** POINTS have names 0 .. 9. */
    private static void namesAre0To9() {
        for (int name = 0; name <= 9; name++) {
            int asked = name;
            NestCells x = new NestCells();
            x.begin();
            Check.answers(1, "point " + name, () -> x.point(asked));
            Check.same("its name", x.level(1, 1), name);
            x.write(3, 4);
            Check.answers(1, "back " + name, () -> x.back(asked));
            Check.answers(0, "release " + name, () -> x.release(asked));
        }
        int[] none = {-1, 10, 11, 32, Integer.MIN_VALUE, Integer.MAX_VALUE};
        NestCells y = new NestCells();
        y.begin();
        for (int name : none) {
            Check.argument("point " + name, () -> y.point(name));
            Check.argument("back " + name, () -> y.back(name));
            Check.argument("release " + name, () -> y.release(name));
        }
    }

    /** Points, in the order in which they were set. */
    private static void pointsStandInTheOrderInWhichTheyWereSet() {
        NestCells x = new NestCells();
        x.begin();
        StringBuilder due = new StringBuilder("-1:0 ");
        int[] names = {5, 9, 0, 7, 1, 8, 2, 6, 3, 4};
        for (int i = 0; i < names.length; i++) {
            int name = names[i];
            Check.answers(i + 1, "point " + name, () -> x.point(name));
            due.append(name).append(":0 ");
            Check.same("the order with " + name, Calls.levels(x), due.toString());
        }
    }

    /** A name set again moves. */
    private static void aNameSetAgainMoves() {
        NestCells x = new NestCells();
        x.begin();
        x.point(4);
        x.point(5);
        x.point(6);
        Check.answers(3, "the earliest set again", () -> x.point(4));
        Check.same("it is the latest", Calls.levels(x), "-1:0 5:0 6:0 4:0 ");
        Check.answers(3, "one in the middle set again", () -> x.point(6));
        Check.same("that is the latest", Calls.levels(x), "-1:0 5:0 4:0 6:0 ");
        Check.answers(3, "the latest set again", () -> x.point(6));
        Check.same("it stays the latest", Calls.levels(x), "-1:0 5:0 4:0 6:0 ");
        x.write(0, 1);
        x.point(5);
        x.write(0, 2);
        Check.answers(1, "back to where it is now", () -> x.back(5));
        Check.answers(1, "what was written before stays", () -> x.read(0));
        Check.same("so do the points before", Calls.levels(x), "-1:0 4:0 6:1 5:0 ");
    }

    private static void aNameSetAgainAmongTen() {
        NestCells x = new NestCells();
        x.begin();
        for (int name = 0; name <= 9; name++) {
            x.point(name);
        }
        Check.answers(10, "the earliest of ten set again", () -> x.point(0));
        Check.answers(10, "the latest of ten set again", () -> x.point(0));
        Check.same("ten points", x.about(6), 10);
        Check.same("the earliest and the latest", x.level(1, 1) + " " + x.level(10, 1), "1 0");
        Check.argument("there is no level more", () -> x.level(11, 1));
    }

    /** The earlier point of that name in that transaction is released first. */
    private static void aNameSetAgainIsReleasedFirst() {
        NestCells x = new NestCells();
        x.begin();
        x.write(0, 1);
        x.point(4);
        x.write(0, 2);
        x.write(1, 3);
        x.point(5);
        x.write(0, 4);
        x.write(2, 5);
        Check.answers(2, "point set again", () -> x.point(4));
        Check.same("a trace went, the other was there", Calls.levels(x), "-1:2 5:2 4:0 ");
        Check.same("a trace less", x.about(2), 4);
        Check.same("cells stay", Calls.cells(x, 0, 1, 2), "4 3 5 ");
        Check.answers(2, "back to the other point", () -> x.back(5));
        Check.same("cells then", Calls.cells(x, 0, 1, 2), "2 3 0 ");
        Check.argument("the moved one is gone with it", () -> x.back(4));
    }

    /** .. in that transaction. */
    private static void aNameIsSetAgainInThatTransactionAlone() {
        NestCells x = new NestCells();
        x.begin();
        x.point(4);
        x.write(0, 1);
        x.begin();
        Check.answers(1, "the name in an inner transaction", () -> x.point(4));
        Check.same("two points with that name", Calls.levels(x), "-1:0 4:1 -1:0 4:0 ");
        x.write(0, 2);
        Check.answers(1, "back to the inner one", () -> x.back(4));
        Check.answers(1, "what the outer one has written", () -> x.read(0));
        Check.answers(0, "release the inner one", () -> x.release(4));
        Check.argument("the outer one is out of reach", () -> x.release(4));
        Check.argument("also to go back to", () -> x.back(4));
        x.commit();
        Check.answers(1, "back to the outer one", () -> x.back(4));
        Check.answers(0, "as it was there", () -> x.read(0));
    }

    /** A LEVEL begins with a transaction, or a point. */
    private static void aLevelBeginsWithATransactionOrAPoint() {
        NestCells none = new NestCells();
        Check.argument("no level at first", () -> none.level(0, 1));
        NestCells x = Calls.allLevels();
        Check.same("levels at most", x.about(1), 88);
        for (int i = 0; i < 88; i++) {
            int asked = i;
            Check.answers(i % 11 - 1, "name of level " + i, () -> x.level(asked, 1));
        }
        Check.argument("level 88", () -> x.level(88, 1));
        Check.argument("level -1", () -> x.level(-1, 1));
        Check.argument("the least level", () -> x.level(Integer.MIN_VALUE, 0));
        Check.argument("the greatest level", () -> x.level(Integer.MAX_VALUE, 0));
        x.write(0, 1);
        Check.same("traces of the latest two", x.level(86, 0) + " " + x.level(87, 0), "0 1");
    }

    /** The latest level is open. */
    private static void theLatestLevelIsOpen() {
        NestCells x = new NestCells();
        x.begin();
        x.write(0, 1);
        Check.same("a transaction's", Calls.levels(x), "-1:1 ");
        x.point(4);
        x.write(0, 2);
        Check.same("a point's", Calls.levels(x), "-1:1 4:1 ");
        x.begin();
        x.write(0, 3);
        Check.same("an inner transaction's", Calls.levels(x), "-1:1 4:1 -1:1 ");
        x.abort();
        x.write(1, 3);
        Check.same("after an abort", Calls.levels(x), "-1:1 4:2 ");
        x.begin();
        x.commit();
        x.write(2, 3);
        Check.same("after a commit", Calls.levels(x), "-1:1 4:3 ");
        x.release(4);
        x.write(3, 3);
        Check.same("after a release", Calls.levels(x), "-1:4 ");
        x.point(4);
        x.point(5);
        x.back(4);
        x.write(0, 4);
        Check.same("after going back", Calls.levels(x), "-1:4 4:1 ");
    }

    /** A cell that is written in a level for the first time leaves there a TRACE. */
    private static void aCellWrittenForTheFirstTimeLeavesATrace() {
        NestCells x = new NestCells();
        x.begin();
        x.write(0, 0);
        Check.same("also when it becomes what it was", x.about(2), 1);
        x.write(0, 1);
        x.write(0, 0);
        Check.same("once alone", x.about(2), 1);
        x.write(31, 1);
        Check.same("another cell", x.level(0, 0), 2);
        x.point(0);
        x.write(0, 5);
        x.write(31, 5);
        x.write(31, 6);
        Check.same("again in another level", Calls.levels(x), "-1:2 0:2 ");
        x.back(0);
        x.write(31, 7);
        Check.same("again after going back", Calls.levels(x), "-1:2 0:1 ");
        x.release(0);
        x.write(31, 8);
        x.write(0, 8);
        Check.same("not where it has one by then", Calls.levels(x), "-1:2 ");
        x.point(0);
        x.write(5, 1);
        x.release(0);
        x.write(5, 2);
        Check.same("nor where one came from another level", Calls.levels(x), "-1:3 ");
    }

    /** .. the cell and what it was. */
    private static void aTraceTellsWhatTheCellWas() {
        for (int v : NUMBERS) {
            NestCells x = new NestCells();
            x.begin();
            x.write(31, v);
            x.point(0);
            x.write(31, 1000);
            x.write(31, 2000);
            Check.answers(1, "back over " + v, () -> x.back(0));
            Check.answers(v, "what it was", () -> x.read(31));
        }
    }

    /** There may be 60 traces in all. */
    private static void sixtyTraces() {
        NestCells x = new NestCells();
        int due = 0;
        for (int t = 0; t < 6; t++) {
            x.begin();
            for (int name = 0; name <= 9; name++) {
                x.point(name);
                Check.answers(due, "write", () -> x.write(31, x.read(31) + 1));
                due++;
                Check.same("traces", x.about(2), due);
            }
        }
        Check.state("the 61st in a level of its own", () -> x.write(30, 1));
        Check.answers(60, "a cell that has one there", () -> x.write(31, 1000));
        NestCells y = Calls.full();
        Check.same("32 and 28", Calls.levels(y), "-1:32 3:28 ");
    }

    /** Its trace would be the 61st. */
    private static void theSixtyFirstTrace() {
        NestCells x = Calls.full();
        for (int cell = 28; cell < 32; cell++) {
            int asked = cell;
            Check.state("the 61st, cell " + cell, () -> x.write(asked, 1));
            Check.answers(100 + cell, "the cell stays", () -> x.read(asked));
        }
        Check.answers(127, "the latest that has one", () -> x.write(27, 1));
        Check.answers(100, "the first that has one", () -> x.write(0, 1));
        Check.answers(2, "a level more is no trace", () -> x.point(4));
        Check.state("the 61st in a new level", () -> x.write(0, 1));
        Check.answers(2, "a transaction is none", x::begin);
        Check.state("the 61st in an inner transaction", () -> x.write(0, 1));
        Check.same("sixty there are", x.about(2), 60);
    }

    /** Room for a trace is there when others are gone. */
    private static void roomForATrace() {
        NestCells x = Calls.full();
        Check.answers(28, "back", () -> x.back(3));
        Check.answers(128, "write after going back", () -> x.write(28, 1));
        NestCells y = Calls.full();
        y.release(3);
        Check.same("a release over traces that are there", y.about(2), 32);
        y.point(3);
        Check.answers(131, "write after a release", () -> y.write(31, 1));
        NestCells z = Calls.full();
        z.point(3);
        Check.answers(128, "write after a name was set again", () -> z.write(28, 1));
        NestCells u = new NestCells();
        u.begin();
        Calls.writeFirst(u, 32);
        u.begin();
        Calls.writeFirst(u, 28);
        Check.answers(1, "commit", u::commit);
        u.begin();
        Calls.writeFirst(u, 28);
        Check.state("the 61st after a commit", () -> u.write(28, 1));
        Check.answers(28, "abort", u::abort);
        u.begin();
        Check.answers(128, "write after an abort", () -> u.write(28, 1));
    }

    /** No room comes from traces that only go to the level before. */
    private static void noRoomForATrace() {
        NestCells x = new NestCells();
        x.begin();
        for (int level = 0; level < 4; level++) {
            for (int i = 0; i < 15; i++) {
                x.write(15 * (level % 2) + i, level);
            }
            x.point(level);
        }
        Check.same("sixty", Calls.levels(x), "-1:15 0:15 1:15 2:15 3:0 ");
        x.release(0);
        Check.same("sixty still", Calls.levels(x), "-1:30 1:15 2:15 3:0 ");
        Check.state("the 61st", () -> x.write(30, 1));
        x.release(2);
        Check.state("the 61st again", () -> x.write(30, 1));
        x.release(1);
        Check.same("thirty", Calls.levels(x), "-1:30 3:0 ");
        Check.answers(0, "write", () -> x.write(30, 1));
    }

    /** Going BACK over a level: its cells become what their traces tell, the traces are gone. */
    private static void goingBack() {
        NestCells x = new NestCells();
        x.begin();
        x.write(0, 1);
        x.point(7);
        x.point(8);
        x.write(0, 2);
        x.write(1, 3);
        x.point(9);
        x.write(0, 4);
        x.write(2, 5);
        x.write(2, 6);
        Check.answers(4, "back over two levels", () -> x.back(8));
        Check.same("the oldest trace of them tells", Calls.cells(x, 0, 1, 2), "1 0 0 ");
        Check.same("the point stays with a new level", Calls.levels(x), "-1:1 7:0 8:0 ");
        Check.argument("the later one is gone", () -> x.back(9));
        Check.argument("it can't be released", () -> x.release(9));
        Check.answers(3, "its name can be set", () -> x.point(9));
    }

    private static void goingBackToTheEarliestAndTheLatestPoint() {
        NestCells x = new NestCells();
        x.begin();
        x.write(0, 1);
        for (int name = 0; name <= 9; name++) {
            x.point(name);
            x.write(0, 10 + name);
        }
        Check.answers(1, "back to the latest of ten", () -> x.back(9));
        Check.answers(18, "as it was there", () -> x.read(0));
        Check.same("ten points", x.about(6), 10);
        Check.answers(0, "back again, with no trace", () -> x.back(9));
        Check.answers(9, "back to the earliest of ten", () -> x.back(0));
        Check.answers(1, "as it was at first", () -> x.read(0));
        Check.same("one point, the transaction's trace stays", Calls.levels(x), "-1:1 0:0 ");
    }

    /** What an inner transaction has left in a level is gone with it. */
    private static void goingBackOverCommittedTransactions() {
        NestCells x = new NestCells();
        x.begin();
        x.point(1);
        x.begin();
        x.write(4, 5);
        x.begin();
        x.point(2);
        x.write(5, 6);
        x.commit();
        x.commit();
        Check.same("their traces", Calls.levels(x), "-1:0 1:2 ");
        Check.answers(2, "back over them", () -> x.back(1));
        Check.same("as before them", Calls.cells(x, 4, 5), "0 0 ");
    }

    private static void afterGoingBack() {
        NestCells x = new NestCells();
        x.begin();
        x.point(1);
        x.write(4, 5);
        x.back(1);
        x.write(4, 6);
        Check.same("a new level has traces of its own", Calls.levels(x), "-1:0 1:1 ");
        Check.answers(1, "back once more", () -> x.back(1));
        Check.answers(0, "as it was", () -> x.read(4));
        x.write(4, 7);
        Check.answers(0, "release after going back", () -> x.release(1));
        Check.same("its trace went", Calls.levels(x), "-1:1 ");
        Check.answers(1, "abort", x::abort);
        Check.answers(0, "as at first", () -> x.read(4));
    }

    /** RELEASING a level: its traces go to the level before it. */
    private static void releasing() {
        NestCells x = new NestCells();
        x.begin();
        x.point(1);
        x.write(1, 11);
        x.point(2);
        x.write(2, 12);
        x.write(3, 13);
        x.point(3);
        x.write(4, 14);
        Check.answers(2, "release the latest", () -> x.release(3));
        Check.same("its trace is the one before's", Calls.levels(x), "-1:0 1:1 2:3 ");
        Check.answers(1, "release the earliest, it alone", () -> x.release(1));
        Check.same("its trace is the transaction's", Calls.levels(x), "-1:1 2:3 ");
        Check.same("cells stay", Calls.cells(x, 1, 2, 3, 4), "11 12 13 14 ");
        Check.answers(3, "back over what came and what was there", () -> x.back(2));
        Check.same("cells then", Calls.cells(x, 1, 2, 3, 4), "11 0 0 0 ");
    }

    /** .. but those of cells that have one there are gone. */
    private static void releasingOverTracesThatAreThere() {
        NestCells x = new NestCells();
        x.begin();
        x.write(0, 1);
        x.write(31, 2);
        x.point(1);
        x.write(0, 3);
        x.write(31, 4);
        x.write(15, 5);
        x.point(2);
        x.write(0, 6);
        x.write(16, 7);
        Check.answers(1, "release the earlier point", () -> x.release(1));
        Check.same("two traces are gone", Calls.levels(x), "-1:3 2:2 ");
        Check.answers(2, "back to the later point", () -> x.back(2));
        Check.same("its traces told of the level before", Calls.cells(x, 0, 31, 15, 16), "3 4 5 0 ");
        Check.answers(3, "abort", x::abort);
        Check.same("the older traces told", Calls.cells(x, 0, 31, 15, 16), "0 0 0 0 ");
    }

    private static void releasingTheOnlyPoint() {
        NestCells x = new NestCells();
        x.begin();
        x.point(6);
        Check.answers(0, "release the only point, with no trace", () -> x.release(6));
        Check.same("the transaction's level", Calls.levels(x), "-1:0 ");
        Check.argument("release it again", () -> x.release(6));
        Check.answers(1, "set it again", () -> x.point(6));
    }

    /** COMMITTING a transaction: its traces go to the level before it, but those that .. are gone. */
    private static void committing() {
        NestCells x = new NestCells();
        x.begin();
        x.write(0, 1);
        x.point(5);
        x.write(1, 2);
        x.begin();
        x.write(0, 3);
        x.write(1, 4);
        x.write(2, 5);
        Check.answers(1, "commit", x::commit);
        Check.same("to the point's level, one was there", Calls.levels(x), "-1:1 5:3 ");
        Check.same("cells stay", Calls.cells(x, 0, 1, 2), "3 4 5 ");
        Check.same("nothing came to the disk", Calls.words(x, 0, 1, 2, 32, 33, 34) + x.about(4), "0 0 0 0 0 0 0");
        Check.answers(3, "back to that point", () -> x.back(5));
        Check.same("as it was there", Calls.cells(x, 0, 1, 2), "1 0 0 ");
    }

    /** All its points are released first. */
    private static void committingReleasesPointsFirst() {
        NestCells x = new NestCells();
        x.begin();
        x.write(3, 1);
        x.begin();
        for (int name = 0; name <= 9; name++) {
            x.point(name);
            x.write(3, 10 + name);
            x.write(name, 20 + name);
        }
        Check.answers(1, "commit with ten points", x::commit);
        Check.same("a trace a cell", Calls.levels(x) + x.about(6), "-1:10 0");
        Check.same("the latest stands", Calls.cells(x, 3, 0, 9), "19 20 29 ");
        Check.answers(10, "abort the outer one", x::abort);
        Check.same("the oldest told", Calls.cells(x, 3, 0, 9), "0 0 0 ");
    }

    private static void committingAllEight() {
        NestCells x = new NestCells();
        for (int t = 1; t <= 8; t++) {
            x.begin();
            x.write(0, t);
            x.write(t, t);
        }
        for (int due = 7; due >= 0; due--) {
            Check.answers(due, "commit", x::commit);
        }
        Check.state("commit with none", x::commit);
        Check.same("entries of all eight", Calls.words(x, 33, 34, 35, 50, 51, 52), "1 0 8 8 8 0 ");
        Check.same("nine entries", x.about(4), 18 + 1 + 1 + 9 + 1);
    }

    /** ABORTING: back over all levels of the innermost transaction. */
    private static void aborting() {
        NestCells x = new NestCells();
        x.begin();
        x.write(0, 1);
        x.point(5);
        x.write(0, 2);
        x.begin();
        x.write(0, 3);
        x.write(9, 3);
        for (int name = 0; name <= 9; name++) {
            x.point(name);
            x.write(0, 10 + name);
        }
        Check.answers(12, "abort with ten points", x::abort);
        Check.same("the outer one's levels stay", Calls.levels(x) + x.about(0), "-1:1 5:1 1");
        Check.same("as when it began", Calls.cells(x, 0, 9), "2 0 ");
        Check.answers(1, "the outer one's point is there", () -> x.back(5));
        Check.answers(1, "abort the outermost", x::abort);
        Check.same("nothing is left", Calls.levels(x) + x.about(0) + x.about(2), "00");
        Check.same("nothing came to the disk", Calls.words(x, 0, 9, 32, 33, 34) + x.about(4), "0 0 0 0 0 0");
    }

    private static void abortingAllEight() {
        NestCells x = new NestCells();
        for (int t = 1; t <= 8; t++) {
            x.begin();
            x.write(0, t);
        }
        for (int left = 7; left >= 0; left--) {
            Check.answers(1, "abort", x::abort);
            Check.same("how many are left", x.about(0), left);
            Check.same("what the one before wrote", x.read(0), left);
        }
        Check.state("abort with none", x::abort);
        x.begin();
        Check.answers(0, "abort with no trace", x::abort);
    }

    /** An object is used for at most 512 calls. */
    private static void theLastOf512Calls() {
        NestCells x = new NestCells();
        Calls.emptyCommits(x, 255);
        Check.same("the 511th call", x.about(4), 255);
        Check.same("the 512th call", x.disk(33), 255);
    }
}
