import java.util.ArrayList;
import java.util.List;
import java.util.TreeSet;

/**
 * The document once more, held in another way: a level keeps all cells as they were when it began, and the
 * names of those written in it. A level released goes up in the one before, whose cells are older.
 */
final class Model {
    private static final class Level {
        final int name;
        final int[] began;
        final TreeSet<Integer> written = new TreeSet<>();

        Level(int name, int[] cells) {
            this.name = name;
            this.began = cells.clone();
        }
    }

    private final List<List<Level>> open = new ArrayList<>();
    private final int[] disk = new int[98];
    private int[] cells = new int[32];
    private int told = 0;
    private int writes = 0;
    private boolean off = false;

    int begin() {
        refuseIf(off || open.size() == 8);
        List<Level> transaction = new ArrayList<>();
        transaction.add(new Level(-1, cells));
        open.add(transaction);
        return open.size();
    }

    int write(int cell, int v) {
        among(cell, 32);
        refuseIf(off || open.isEmpty());
        TreeSet<Integer> written = latest().written;
        refuseIf(!written.contains(cell) && about(2) == 60);
        written.add(cell);
        int was = cells[cell];
        cells[cell] = v;
        return was;
    }

    int read(int cell) {
        among(cell, 32);
        refuseIf(off);
        return cells[cell];
    }

    int commit() {
        refuseIf(off || open.isEmpty());
        TreeSet<Integer> written = new TreeSet<>();
        for (Level level : innermost()) {
            written.addAll(level.written);
        }
        open.remove(open.size() - 1);
        if (!open.isEmpty()) {
            latest().written.addAll(written);
            return open.size();
        }
        for (int[] due : writesOf(written)) {
            if (told == 1) {
                told = 0;
                off = true;
                return -1;
            }
            told = Math.max(0, told - 1);
            put(due[0], due[1]);
        }
        return 0;
    }

    private List<int[]> writesOf(TreeSet<Integer> written) {
        List<int[]> all = new ArrayList<>();
        for (int cell : written) {
            all.add(new int[] {34 + all.size(), cell});
            all.add(new int[] {34 + all.size(), cells[cell]});
        }
        all.add(new int[] {33, disk[33] + 1});
        if (!written.isEmpty()) {
            all.add(new int[] {32, written.size()});
            for (int cell : written) {
                all.add(new int[] {cell, cells[cell]});
            }
            all.add(new int[] {32, 0});
        }
        return all;
    }

    int abort() {
        refuseIf(off || open.isEmpty());
        int gone = dropFrom(0);
        open.remove(open.size() - 1);
        return gone;
    }

    int point(int name) {
        among(name, 10);
        refuseIf(off || open.isEmpty());
        if (find(name) > 0) {
            goUp(find(name));
        }
        innermost().add(new Level(name, cells));
        return innermost().size() - 1;
    }

    int back(int name) {
        int at = pointDue(name);
        int gone = dropFrom(at);
        innermost().add(new Level(name, cells));
        return gone;
    }

    int release(int name) {
        goUp(pointDue(name));
        return innermost().size() - 1;
    }

    int crash(int n) {
        told = Math.max(0, n);
        return 0;
    }

    int recover() {
        open.clear();
        off = false;
        told = 0;
        int homes = 0;
        int mark = disk[32];
        if (mark > 0 && mark < 33) {
            for (int word = 34; word < 34 + 2 * mark; word += 2) {
                if (disk[word] >= 0 && disk[word] <= 31) {
                    put(disk[word], disk[word + 1]);
                    homes++;
                }
            }
        }
        if (mark != 0) {
            put(32, 0);
        }
        System.arraycopy(disk, 0, cells, 0, 32);
        return homes;
    }

    int disk(int i) {
        among(i, 98);
        return disk[i];
    }

    int spoil(int i, int v) {
        among(i, 98);
        int was = disk[i];
        disk[i] = v;
        return was;
    }

    int level(int i, int what) {
        List<Level> all = new ArrayList<>();
        open.forEach(all::addAll);
        among(i, all.size());
        among(what, 2);
        return what == 0 ? all.get(i).written.size() : all.get(i).name;
    }

    int about(int what) {
        among(what, 7);
        int levels = 0;
        int traces = 0;
        for (List<Level> transaction : open) {
            levels += transaction.size();
            for (Level level : transaction) {
                traces += level.written.size();
            }
        }
        int points = open.isEmpty() ? 0 : innermost().size() - 1;
        return new int[] {open.size(), levels, traces, told, writes, off ? 1 : 0, points}[what];
    }

    private void put(int word, int v) {
        disk[word] = v;
        writes++;
    }

    private List<Level> innermost() {
        return open.get(open.size() - 1);
    }

    private Level latest() {
        return innermost().get(innermost().size() - 1);
    }

    private int pointDue(int name) {
        among(name, 10);
        refuseIf(off || open.isEmpty());
        if (find(name) < 0) {
            throw new IllegalArgumentException();
        }
        return find(name);
    }

    private int find(int name) {
        for (int i = 1; i < innermost().size(); i++) {
            if (innermost().get(i).name == name) {
                return i;
            }
        }
        return -1;
    }

    private void goUp(int at) {
        Level gone = innermost().remove(at);
        innermost().get(at - 1).written.addAll(gone.written);
    }

    private int dropFrom(int at) {
        cells = innermost().get(at).began.clone();
        int gone = 0;
        while (innermost().size() > at) {
            gone += innermost().remove(innermost().size() - 1).written.size();
        }
        return gone;
    }

    private static void among(int i, int n) {
        if (i < 0 || i >= n) {
            throw new IllegalArgumentException();
        }
    }

    private static void refuseIf(boolean so) {
        if (so) {
            throw new IllegalStateException();
        }
    }
}
