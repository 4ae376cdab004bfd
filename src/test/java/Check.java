/** Counts what the tests find, and tells every answer that is not the one that is due. */
final class Check {
    interface Call {
        long answer();
    }

    private static final int SHOWN = 20;
    private static int passed = 0;
    private static int failed = 0;

    private Check() {
    }

    static void same(String what, long due, long got) {
        count(due == got, what + ": due is " + due + ", got " + got);
    }

    static void same(String what, boolean due, boolean got) {
        count(due == got, what + ": due is " + due + ", got " + got);
    }

    static void same(String what, String due, String got) {
        count(due.equals(got), what + ": due is " + due + ", got " + got);
    }

    static void refused(String what, Class<? extends RuntimeException> due, Call call) {
        same(what, due.getName(), outcome(call));
    }

    static void noIndex(String what, Call call) {
        refused(what, IndexOutOfBoundsException.class, call);
    }

    static void badArgument(String what, Call call) {
        refused(what, IllegalArgumentException.class, call);
    }

    static void badState(String what, Call call) {
        refused(what, IllegalStateException.class, call);
    }

    /** The answer, or the exact class of what was thrown. */
    static String outcome(Call call) {
        try {
            return Long.toString(call.answer());
        } catch (RuntimeException e) {
            return e.getClass().getName();
        }
    }

    static void count(boolean right, String complaint) {
        if (right) {
            passed++;
            return;
        }
        failed++;
        if (failed <= SHOWN) {
            System.out.println(complaint);
        }
    }

    static void finish(String name) {
        System.out.println(name + ": " + passed + " checks hold, " + failed + " do not");
        if (failed != 0 || passed == 0) {
            System.exit(1);
        }
    }
}
