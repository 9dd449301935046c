/** Counts the answers that are not due; every test ends with ended(). */
final class Check {
    /** A call whose answer, or exception, is looked at. */
    interface Call {
        int answer();
    }

    private static int looked = 0;
    private static int wrong = 0;

    private Check() {
    }

    static void same(String what, Object got, Object due) {
        looked++;
        if (!got.equals(due)) {
            wrong++;
            System.out.println(what + ": " + got + ", due is " + due);
        }
    }

    static void answers(int due, String what, Call call) {
        same(what, told(call), String.valueOf(due));
    }

    /** The call throws this very class; that nothing changes by it is RefusedTest's. */
    static void argument(String what, Call call) {
        same(what, told(call), "throws.IllegalArgumentException");
    }

    static void state(String what, Call call) {
        same(what, told(call), "throws.IllegalStateException");
    }

    /** The answer as a text, or throws. with the exception's name. */
    static String told(Call call) {
        try {
            return String.valueOf(call.answer());
        } catch (RuntimeException e) {
            return "throws." + e.getClass().getSimpleName();
        }
    }

    /** All that can be asked of an object without a change to it. */
    static String picture(NestCells x) {
        StringBuilder all = new StringBuilder();
        for (int what = 0; what <= 6; what++) {
            all.append(x.about(what)).append(' ');
        }
        all.append("levels ");
        int levels = x.about(1);
        for (int i = 0; i < levels; i++) {
            all.append(x.level(i, 1)).append(':').append(x.level(i, 0)).append(' ');
        }
        all.append("cells ");
        for (int cell = 0; cell < 32; cell++) {
            int asked = cell;
            all.append(told(() -> x.read(asked))).append(' ');
        }
        all.append("disk ");
        for (int word = 0; word < 98; word++) {
            all.append(x.disk(word)).append(' ');
        }
        return all.toString();
    }

    static void ended(String test) {
        System.out.println(test + ": " + looked + " looked at, " + wrong + " wrong");
        if (wrong != 0) {
            System.exit(1);
        }
    }
}
