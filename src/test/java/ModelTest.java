import java.util.Random;

/** Long runs of calls, the same ones each time, on the program and on the model: every answer is the same. */
public final class ModelTest {
    private static final int RUNS = 6000;
    /** Later calls on an object may answer anything. */
    private static final int CALLS = 512;
    /** How often each call comes, in the order of call(): a run leans to one of these. */
    private static final int[][] LEANINGS = {
        {4, 12, 3, 4, 2, 5, 3, 3, 1, 1, 2, 2, 2, 1, 0},
        {6, 40, 1, 2, 1, 4, 2, 2, 0, 0, 0, 0, 1, 1, 0},
        {6, 6, 1, 3, 2, 25, 5, 12, 0, 0, 0, 0, 2, 1, 0},
        {5, 20, 1, 8, 1, 1, 1, 1, 5, 5, 2, 6, 1, 2, 1},
        {8, 30, 2, 3, 3, 8, 3, 5, 0, 0, 0, 0, 2, 2, 0},
    };
    private static final int[] EDGES = {Integer.MIN_VALUE, -1, 10, 32, 33, 98, Integer.MAX_VALUE};

    public static void main(String[] args) {
        for (int run = 0; run < RUNS; run++) {
            one(run);
        }
        Check.ended("ModelTest");
    }

    private static void one(int run) {
        Random random = new Random(run);
        int[] leaning = LEANINGS[run % LEANINGS.length];
        NestCells x = new NestCells();
        Model[] model = {new Model()};
        int length = 1 + random.nextInt(CALLS);
        for (int n = 1; n <= length && n + pictureCalls(model[0]) <= CALLS; n++) {
            int call = pick(random, leaning);
            int a = number(random, range(call));
            int b = random.nextInt(4) == 0 ? random.nextInt() : random.nextInt(35) - 1;
            String what = "run " + run + ", call " + n + ": " + call + "(" + a + ", " + b + ")";
            String due = Check.told(() -> onModel(model, call, a, b));
            Check.same(what, Check.told(() -> onProgram(x, call, a, b)), due);
        }
        Check.same("run " + run + ", what is there then", Check.picture(x), picture(model[0]));
    }

    /** How many calls a picture takes that is made after one call more. */
    private static int pictureCalls(Model model) {
        return 7 + 1 + 2 * (model.about(1) + 1) + 32 + 98;
    }

    private static int pick(Random random, int[] leaning) {
        int sum = 0;
        for (int weight : leaning) {
            sum += weight;
        }
        int left = random.nextInt(sum);
        int call = 0;
        while (left >= leaning[call]) {
            left -= leaning[call];
            call++;
        }
        return call;
    }

    /** Arguments beyond which a call would mostly be refused. */
    private static int range(int call) {
        switch (call) {
            case 1: case 2: return 32;
            case 5: case 6: case 7: return 10;
            case 8: return 110;
            case 12: return 20;
            case 13: return 7;
            default: return 98;
        }
    }

    private static int number(Random random, int range) {
        return random.nextInt(25) == 0 ? EDGES[random.nextInt(EDGES.length)] : random.nextInt(range);
    }

    private static int onProgram(NestCells x, int call, int a, int b) {
        switch (call) {
            case 0: return x.begin();
            case 1: return x.write(a, b);
            case 2: return x.read(a);
            case 3: return x.commit();
            case 4: return x.abort();
            case 5: return x.point(a);
            case 6: return x.back(a);
            case 7: return x.release(a);
            case 8: x.crash(a); return 0;
            case 9: return x.recover();
            case 10: return x.disk(a);
            case 11: return x.spoil(spoiled(a), b);
            case 12: return x.level(a, b & 3);
            case 13: return x.about(a);
            default: x.format(); return 0;
        }
    }

    private static int onModel(Model[] model, int call, int a, int b) {
        switch (call) {
            case 0: return model[0].begin();
            case 1: return model[0].write(a, b);
            case 2: return model[0].read(a);
            case 3: return model[0].commit();
            case 4: return model[0].abort();
            case 5: return model[0].point(a);
            case 6: return model[0].back(a);
            case 7: return model[0].release(a);
            case 8: return model[0].crash(a);
            case 9: return model[0].recover();
            case 10: return model[0].disk(a);
            case 11: return model[0].spoil(spoiled(a), b);
            case 12: return model[0].level(a, b & 3);
            case 13: return model[0].about(a);
            default: model[0] = new Model(); return 0;
        }
    }

    /** The mark is spoiled more often than its share, so that recovering meets it. */
    private static int spoiled(int a) {
        return a >= 0 && a < 98 && a % 4 == 0 ? 32 : a;
    }

    /** As Check.picture, of the model. */
    private static String picture(Model model) {
        StringBuilder all = new StringBuilder();
        for (int what = 0; what <= 6; what++) {
            all.append(model.about(what)).append(' ');
        }
        all.append("levels ");
        for (int i = 0; i < model.about(1); i++) {
            all.append(model.level(i, 1)).append(':').append(model.level(i, 0)).append(' ');
        }
        all.append("cells ");
        for (int cell = 0; cell < 32; cell++) {
            int asked = cell;
            all.append(Check.told(() -> model.read(asked))).append(' ');
        }
        all.append("disk ");
        for (int word = 0; word < 98; word++) {
            all.append(model.disk(word)).append(' ');
        }
        return all.toString();
    }
}
