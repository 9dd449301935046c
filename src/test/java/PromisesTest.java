/** Each promise by itself: ordinary inputs, the edges that the document names, wrong inputs. */
public final class PromisesTest {
    private static final int[] NO_CELLS = {-1, 32, Integer.MIN_VALUE, Integer.MAX_VALUE};
    private static final int[] NO_NAMES = {-1, 10, Integer.MIN_VALUE, Integer.MAX_VALUE};
    private static final int[] NO_WORDS = {-1, 98, Integer.MIN_VALUE, Integer.MAX_VALUE};

    public static void main(String[] args) {
        newObject();
        format();
        begin();
        write();
        read();
        commitInner();
        commitOutermost();
        commitAfterPoints();
        commitCutOff();
        commitRefused();
        abort();
        point();
        pointMoves();
        back();
        release();
        releaseKeepsTheOlderTrace();
        crash();
        recover();
        recoverFromSpoiledMarks();
        recoverFromSpoiledEntries();
        disk();
        spoil();
        level();
        about();
        Check.ended("PromisesTest");
    }

    private static void newObject() {
        NestCells x = new NestCells();
        for (int what = 0; what <= 6; what++) {
            int asked = what;
            Check.answers(0, "new: about " + what, () -> x.about(asked));
        }
        for (int cell = 0; cell < 32; cell++) {
            int asked = cell;
            Check.answers(0, "new: cell " + cell, () -> x.read(asked));
        }
        for (int word = 0; word < 98; word++) {
            int asked = word;
            Check.answers(0, "new: word " + word, () -> x.disk(asked));
        }
    }

    private static void format() {
        String fresh = Check.picture(new NestCells());
        NestCells x = Calls.open(2, 5);
        x.commit();
        x.commit();
        x.begin();
        x.write(3, 4);
        x.point(7);
        x.crash(40);
        x.spoil(97, 1);
        x.format();
        Check.same("format in a transaction", Check.picture(x), fresh);
        Calls.off(x);
        x.crash(3);
        x.format();
        Check.same("format when off", Check.picture(x), fresh);
        Check.answers(1, "begin after format", x::begin);
    }

    private static void begin() {
        NestCells x = new NestCells();
        for (int due = 1; due <= 8; due++) {
            Check.answers(due, "begin", x::begin);
            Check.same("levels after begin", x.about(1), due);
        }
        Check.state("begin a ninth", x::begin);
        x.abort();
        Check.answers(8, "begin again", x::begin);
        Calls.off(x);
        Check.state("begin when off", x::begin);
    }

    private static void write() {
        NestCells x = new NestCells();
        Check.state("write without a transaction", () -> x.write(0, 1));
        x.begin();
        Check.answers(0, "write", () -> x.write(31, Integer.MIN_VALUE));
        Check.answers(Integer.MIN_VALUE, "write again", () -> x.write(31, 7));
        Check.same("one trace a cell and level", x.about(2), 1);
        Check.answers(0, "write what it is", () -> x.write(0, 0));
        Check.same("also that leaves a trace", x.about(2), 2);
        x.point(0);
        Check.answers(7, "write in a point's level", () -> x.write(31, 8));
        Check.same("a trace in a level of its own", x.level(1, 0), 1);
        for (int cell : NO_CELLS) {
            Check.argument("write " + cell, () -> x.write(cell, 1));
        }
        Calls.off(x);
        Check.state("write when off", () -> x.write(0, 1));
        Check.argument("write no cell when off", () -> x.write(32, 1));
        Check.argument("write no cell without a transaction", () -> new NestCells().write(-1, 1));
        fullOfTraces();
    }

    private static void fullOfTraces() {
        NestCells x = new NestCells();
        x.begin();
        Calls.writeFirst(x, 32);
        x.begin();
        Calls.writeFirst(x, 28);
        Check.same("sixty traces", x.about(2), 60);
        Check.state("the 61st trace", () -> x.write(28, 1));
        Check.argument("no cell among sixty traces", () -> x.write(32, 1));
        Check.answers(100, "a cell with a trace", () -> x.write(0, 5));
        x.point(3);
        Check.state("the 61st trace in a new level", () -> x.write(0, 1));
        x.release(3);
        x.commit();
        Check.same("traces that were there are gone", x.about(2), 32);
        x.point(3);
        Check.answers(5, "a trace after room was made", () -> x.write(0, 6));
    }

    private static void read() {
        NestCells x = Calls.open(1, 5);
        Check.answers(5, "read what was written", () -> x.read(0));
        Check.answers(0, "read another", () -> x.read(31));
        x.commit();
        Check.answers(5, "read without a transaction", () -> x.read(0));
        for (int cell : NO_CELLS) {
            Check.argument("read " + cell, () -> x.read(cell));
        }
        Calls.off(x);
        Check.state("read when off", () -> x.read(0));
        Check.argument("read no cell when off", () -> x.read(32));
    }

    private static void commitInner() {
        NestCells x = Calls.open(3, 5);
        x.write(9, 6);
        x.abort();
        x.write(4, 1);
        x.point(1);
        x.write(4, 2);
        x.write(5, 3);
        Check.answers(1, "commit an inner one", x::commit);
        Check.same("its traces went out, its points are gone", Calls.levels(x), "-1:2 ");
        Check.same("no write by it", x.about(4), 0);
        x.begin();
        x.write(4, 77);
        Check.answers(1, "commit over a cell with a trace", x::commit);
        Check.same("that trace is gone", Calls.levels(x), "-1:2 ");
        Check.answers(2, "abort the outer one", x::abort);
        Check.same("the oldest tells", Calls.cells(x, 0, 4, 5, 9), "0 0 0 0 ");
    }

    private static void commitOutermost() {
        NestCells x = new NestCells();
        x.spoil(33, Integer.MAX_VALUE);
        x.begin();
        x.write(31, -9);
        x.write(2, 8);
        x.write(17, 0);
        Check.answers(0, "commit the outermost one", x::commit);
        Check.same("homes", Calls.words(x, 2, 17, 31), "8 0 -9 ");
        Check.same("mark, count that wraps", Calls.words(x, 32, 33), "0 -2147483648 ");
        Check.same("entries, cells rising", Calls.words(x, 34, 35, 36, 37, 38, 39, 40), "2 8 17 0 31 -9 0 ");
        Check.same("writes: 6, 1, 1, 3, 1", x.about(4), 12);
        Check.same("nothing is open", Calls.levels(x) + x.about(0) + x.about(2), "00");
        x.begin();
        Check.answers(0, "commit with no trace", x::commit);
        Check.same("it writes word 33 alone", x.about(4), 13);
        Check.same("word 33", x.disk(33), Integer.MIN_VALUE + 1);
        x.begin();
        Calls.writeFirst(x, 32);
        Check.answers(0, "commit of all cells", x::commit);
        Check.same("its last entry", Calls.words(x, 96, 97), "31 131 ");
        Check.same("its writes: 64, 1, 1, 32, 1", x.about(4), 13 + 99);
    }

    private static void commitAfterPoints() {
        NestCells x = new NestCells();
        x.begin();
        x.point(0);
        x.write(1, 10);
        x.point(1);
        x.write(1, 11);
        x.write(2, 12);
        Check.answers(0, "commit with points", x::commit);
        Check.same("entries of all levels", Calls.words(x, 34, 35, 36, 37, 38), "1 11 2 12 0 ");
        Check.same("points are gone", x.about(1), 0);
    }

    private static void commitCutOff() {
        int writes = 9;
        for (int n = 1; n <= writes + 1; n++) {
            NestCells x = Calls.open(1, 5);
            x.write(6, 7);
            x.point(2);
            x.crash(n);
            boolean cut = n <= writes;
            int due = cut ? NestCells.NONE : 0;
            Check.answers(due, "commit, a crash told for write " + n, x::commit);
            Check.same("off after crash " + n, x.about(5), cut ? 1 : 0);
            Check.same("writes before crash " + n, x.about(4), cut ? n - 1 : writes);
            Check.same("nothing open after crash " + n, x.about(0) + x.about(1) + x.about(2) + x.about(6), 0);
            Check.same("told after crash " + n, x.about(3), cut ? 0 : 1);
            Check.same("disk after crash " + n, Calls.words(x, 34, 35, 36, 37, 33, 0, 6), diskAt(n));
            Check.same("mark after crash " + n, x.disk(32), n > 6 && cut ? 2 : 0);
        }
        NestCells y = new NestCells();
        y.begin();
        y.crash(1);
        Check.answers(NestCells.NONE, "commit with no trace cut off", y::commit);
        Check.same("word 33 stays", y.disk(33), 0);
    }

    /** Words 34 to 37, 33, and the homes 0 and 6, when the n-th write and all later ones did not come. */
    private static String diskAt(int n) {
        int[] written = {0, 5, 6, 7, 1, 2, 5, 7, 0};
        int[] order = {0, 1, 2, 3, 4, 6, 7};
        StringBuilder due = new StringBuilder();
        for (int write : order) {
            due.append(write + 1 < n ? written[write] : 0).append(' ');
        }
        return due.toString();
    }

    private static void commitRefused() {
        NestCells x = new NestCells();
        Check.state("commit with none", x::commit);
        Calls.off(x);
        Check.state("commit when off", x::commit);
    }

    private static void abort() {
        NestCells x = Calls.open(1, 5);
        x.begin();
        x.write(0, 6);
        x.write(1, 7);
        x.point(4);
        x.write(0, 8);
        x.point(5);
        x.write(0, 9);
        Check.answers(4, "abort: traces of all its levels", x::abort);
        Check.same("cells of the outer one", Calls.cells(x, 0, 1), "5 0 ");
        Check.same("one transaction with its level", Calls.levels(x) + x.about(0), "-1:1 1");
        Check.answers(1, "abort the outermost one", x::abort);
        Check.same("cells as they were", Calls.cells(x, 0, 1), "0 0 ");
        Check.same("no write by it", x.about(4) + x.disk(33), 0);
        Check.state("abort with none", x::abort);
        x.begin();
        Check.answers(0, "abort with no trace", x::abort);
        Calls.off(x);
        Check.state("abort when off", x::abort);
    }

    private static void point() {
        NestCells x = new NestCells();
        Check.state("point without a transaction", () -> x.point(0));
        Check.argument("point without a name or a transaction", () -> x.point(10));
        for (int t = 1; t <= 8; t++) {
            x.begin();
            for (int name = 9; name >= 0; name--) {
                int set = name;
                Check.answers(10 - name, "point " + name, () -> x.point(set));
            }
        }
        Check.same("8 transactions and their points", x.about(1), 88);
        Check.answers(10, "point that is there", () -> x.point(4));
        Check.same("no level more", x.about(1), 88);
        for (int name : NO_NAMES) {
            Check.argument("point " + name, () -> x.point(name));
        }
        Calls.off(x);
        Check.state("point when off", () -> x.point(0));
        Check.argument("no name when off", () -> x.point(-1));
    }

    private static void pointMoves() {
        NestCells x = Calls.open(1, 5);
        x.point(1);
        x.write(0, 6);
        x.write(1, 7);
        x.point(2);
        x.write(2, 8);
        Check.answers(2, "point that moves", () -> x.point(1));
        Check.same("its traces went to the level before", Calls.levels(x), "-1:2 2:1 1:0 ");
        x.begin();
        Check.answers(1, "the same name in an inner one", () -> x.point(1));
        Check.same("the outer point stays", Calls.levels(x), "-1:2 2:1 1:0 -1:0 1:0 ");
        x.abort();
        Check.answers(2, "the latest point set again", () -> x.point(1));
        Check.same("it stays the latest", Calls.levels(x), "-1:2 2:1 1:0 ");
    }

    private static void back() {
        NestCells x = new NestCells();
        Check.state("back without a transaction", () -> x.back(0));
        x.begin();
        x.write(0, 5);
        x.point(1);
        x.write(0, 6);
        x.point(2);
        x.write(0, 7);
        x.write(1, 8);
        x.point(3);
        x.write(1, 9);
        Check.answers(3, "back", () -> x.back(2));
        Check.same("cells at that point", Calls.cells(x, 0, 1), "6 0 ");
        Check.same("the point stays, later ones are gone", Calls.levels(x), "-1:1 1:1 2:0 ");
        Check.argument("back to a later one", () -> x.back(3));
        Check.answers(0, "back again", () -> x.back(2));
        Check.answers(1, "back to the first one", () -> x.back(1));
        Check.same("cells at the first point", Calls.cells(x, 0, 1), "5 0 ");
        x.begin();
        Check.argument("back to an outer one's point", () -> x.back(1));
        x.abort();
        for (int name : NO_NAMES) {
            Check.argument("back " + name, () -> x.back(name));
        }
        Calls.off(x);
        Check.state("back when off", () -> x.back(1));
        Check.argument("back, no name, when off", () -> x.back(10));
    }

    private static void release() {
        NestCells x = new NestCells();
        Check.state("release without a transaction", () -> x.release(0));
        x.begin();
        x.point(1);
        x.write(0, 6);
        x.point(2);
        x.write(1, 7);
        x.point(3);
        x.write(2, 8);
        Check.answers(2, "release the middle one", () -> x.release(2));
        Check.same("its traces went to the level before", Calls.levels(x), "-1:0 1:2 3:1 ");
        Check.same("cells stay", Calls.cells(x, 0, 1, 2), "6 7 8 ");
        Check.argument("release what is gone", () -> x.release(2));
        Check.answers(1, "release the first one", () -> x.release(1));
        Check.same("to the transaction's level", Calls.levels(x), "-1:2 3:1 ");
        Check.answers(1, "back to the one that is left", () -> x.back(3));
        Check.same("cells at that point", Calls.cells(x, 0, 1, 2), "6 7 0 ");
        x.begin();
        Check.argument("release an outer one's point", () -> x.release(3));
        x.abort();
        for (int name : NO_NAMES) {
            Check.argument("release " + name, () -> x.release(name));
        }
        Calls.off(x);
        Check.state("release when off", () -> x.release(3));
        Check.argument("release, no name, when off", () -> x.release(-1));
    }

    private static void releaseKeepsTheOlderTrace() {
        NestCells x = new NestCells();
        x.begin();
        x.point(1);
        x.write(31, 6);
        x.point(2);
        x.write(31, 7);
        x.write(0, 8);
        x.point(3);
        x.write(31, 9);
        x.release(2);
        Check.same("a trace that is there stays alone", Calls.levels(x), "-1:0 1:2 3:1 ");
        Check.answers(1, "back over the later level", () -> x.back(3));
        Check.same("what it was there", Calls.cells(x, 31, 0), "7 8 ");
        Check.answers(2, "back over both", () -> x.back(1));
        Check.same("what it was first", Calls.cells(x, 31, 0), "0 0 ");
    }

    private static void crash() {
        NestCells x = new NestCells();
        int[] none = {0, -1, Integer.MIN_VALUE};
        for (int n : none) {
            x.crash(5);
            x.crash(n);
            Check.same("none told with " + n, x.about(3), 0);
        }
        x.crash(Integer.MAX_VALUE);
        x.crash(3);
        Check.same("told again", x.about(3), 3);
        x.spoil(0, 1);
        Check.same("a spoiled word is no write", x.about(3), 3);
        Calls.emptyCommits(x, 2);
        Check.same("it comes nearer with each write", x.about(3), 1);
        x.begin();
        Check.answers(NestCells.NONE, "the crash comes", x::commit);
        x.crash(4);
        Check.same("told when off", x.about(3), 4);
        Check.same("still off", x.about(5), 1);
    }

    private static void recover() {
        NestCells x = Calls.open(1, 5);
        x.write(6, 7);
        x.crash(7);
        x.commit();
        x.crash(1);
        Check.answers(2, "recover from a mark", x::recover);
        Check.same("power, no crash told", Calls.words(x, 32) + x.about(5) + x.about(3), "0 00");
        Check.same("homes and cells", Calls.words(x, 0, 6) + Calls.cells(x, 0, 6), "5 7 5 7 ");
        Check.same("two homes and the mark were writes", x.about(4), 6 + 3);
        Check.answers(0, "recover again", x::recover);
        Check.same("no write by it", x.about(4), 9);
        x.begin();
        x.write(0, 99);
        x.point(1);
        x.spoil(6, 70);
        x.crash(50);
        Check.answers(0, "recover with the power on", x::recover);
        Check.same("transactions are gone", Calls.levels(x) + x.about(0) + x.about(2) + x.about(3), "000");
        Check.same("the cells are their homes", Calls.cells(x, 0, 6), "5 70 ");
    }

    private static void recoverFromSpoiledMarks() {
        int[] marks = {33, -1, Integer.MIN_VALUE, Integer.MAX_VALUE};
        for (int mark : marks) {
            NestCells x = new NestCells();
            x.spoil(34, 3);
            x.spoil(35, 9);
            x.spoil(32, mark);
            Check.answers(0, "recover from mark " + mark, x::recover);
            Check.same("mark " + mark + " becomes 0, a write", Calls.words(x, 32, 3) + x.about(4), "0 0 1");
            Check.answers(0, "recover once more", x::recover);
            Check.same("a mark that is 0 is no write", x.about(4), 1);
        }
        NestCells cut = Calls.open(1, 5);
        cut.crash(2);
        cut.commit();
        cut.spoil(32, 33);
        cut.crash(1);
        Check.answers(0, "recover from a spoiled mark when off", cut::recover);
        Check.same("no crash cuts it off", Calls.words(cut, 32, 34, 35) + cut.about(4) + cut.about(5), "0 0 0 20");
        NestCells one = new NestCells();
        one.spoil(35, 9);
        one.spoil(37, 8);
        one.spoil(32, 1);
        Check.answers(1, "recover from mark 1", one::recover);
        Check.same("the first entry alone", Calls.cells(one, 0) + one.about(4), "9 2");
        NestCells y = new NestCells();
        for (int j = 0; j < 32; j++) {
            y.spoil(34 + 2 * j, 31 - j);
            y.spoil(35 + 2 * j, 1000 + j);
        }
        y.spoil(32, 32);
        Check.answers(32, "recover from mark 32", y::recover);
        Check.same("first and last entry", Calls.cells(y, 31, 0) + y.about(4), "1000 1031 33");
    }

    private static void recoverFromSpoiledEntries() {
        NestCells x = new NestCells();
        int[] entries = {32, 1, -1, 2, 5, 3, 5, 4, Integer.MIN_VALUE, 5, 0, 6, 1, 7};
        for (int i = 0; i < entries.length; i++) {
            x.spoil(34 + i, entries[i]);
        }
        x.spoil(32, 6);
        Check.answers(3, "entries with no cell are passed over", x::recover);
        Check.same("in order, no further than the mark", Calls.cells(x, 5, 0, 1), "4 6 0 ");
        Check.same("three homes and the mark were writes", x.about(4), 4);
    }

    private static void disk() {
        NestCells x = new NestCells();
        for (int word = 0; word < 98; word++) {
            x.spoil(word, 1000 - word);
        }
        for (int word = 0; word < 98; word++) {
            int asked = word;
            Check.answers(1000 - word, "word " + word, () -> x.disk(asked));
        }
        Calls.off(x);
        Check.answers(903, "a word when off", () -> x.disk(97));
        for (int word : NO_WORDS) {
            Check.argument("word " + word, () -> x.disk(word));
        }
    }

    private static void spoil() {
        NestCells x = Calls.open(1, 5);
        x.commit();
        Check.answers(5, "spoil a home", () -> x.spoil(0, Integer.MIN_VALUE));
        Check.answers(Integer.MIN_VALUE, "what was spoiled", () -> x.spoil(0, 3));
        Check.answers(5, "the cell stays", () -> x.read(0));
        Check.same("no write by it", x.about(4), 6);
        Calls.off(x);
        Check.answers(0, "spoil when off", () -> x.spoil(97, 8));
        Check.same("spoiled when off", x.disk(97), 8);
        for (int word : NO_WORDS) {
            Check.argument("spoil " + word, () -> x.spoil(word, 1));
        }
    }

    private static void level() {
        NestCells x = new NestCells();
        Check.argument("a level when there is none", () -> x.level(0, 0));
        x.begin();
        x.write(0, 1);
        x.point(0);
        x.begin();
        x.point(9);
        x.write(1, 1);
        x.write(31, 1);
        int[] traces = {1, 0, 0, 2};
        int[] names = {NestCells.NONE, 0, NestCells.NONE, 9};
        for (int i = 0; i < 4; i++) {
            int asked = i;
            Check.answers(traces[i], "traces of level " + i, () -> x.level(asked, 0));
            Check.answers(names[i], "name of level " + i, () -> x.level(asked, 1));
        }
        Check.argument("level 4", () -> x.level(4, 0));
        Check.argument("level -1", () -> x.level(-1, 1));
        Check.argument("what 2", () -> x.level(0, 2));
        Check.argument("what -1", () -> x.level(0, -1));
        Calls.off(x);
        Check.argument("a level when off", () -> x.level(0, 0));
    }

    private static void about() {
        NestCells x = Calls.open(2, 5);
        x.commit();
        x.begin();
        x.point(3);
        x.point(8);
        x.write(7, 7);
        x.crash(20);
        int[] due = {2, 4, 2, 20, 0, 0, 2};
        for (int what = 0; what <= 6; what++) {
            int asked = what;
            Check.answers(due[what], "about " + what, () -> x.about(asked));
        }
        x.commit();
        Check.same("points are those of the innermost one", x.about(6), 0);
        Check.argument("about 7", () -> x.about(7));
        Check.argument("about -1", () -> x.about(-1));
        Calls.off(x);
        Check.answers(1, "off", () -> x.about(5));
        Check.answers(0, "points when off", () -> x.about(6));
    }
}
