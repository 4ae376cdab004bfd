/** Promises 43 to 55: closed minutes and sirens. */
public final class ClosedTest {
    private static final String TWO_ROADS = "day 0 1439;space 0;road r 0 0 0 0;road s 10 0 10 0;road t 999 999 999 999;"
            + "blast a 0 0 1 1 at 0;blast b 0 0 10 1 at 0;blast c 10 0 1 1 at 0;blast d 500 500 1 1 at 0;";

    public static void main(String[] args) {
        promises43And44Sizes();
        promise45IsClosed();
        promises46To48Closures();
        edgesOfTheDay();
        closingOfNothing();
        promise49OpenMinutes();
        promise50SharedMinutes();
        promise51BusiestHour();
        promises52To55Sirens();
        sirensAtTheEdges();
        Check.finish("ClosedTest");
    }

    private static void promises43And44Sizes() {
        BlastPlanner x = Texts.loaded(TWO_ROADS);
        Check.same("open blasts close nothing", 0, x.totalClosed());
        x.schedule(0, 600);
        x.schedule(1, 610);
        x.schedule(3, 700);
        Check.same("r", 25, x.closedMinutes(0));
        Check.same("s", 15, x.closedMinutes(1));
        Check.same("t", 0, x.closedMinutes(2));
        Check.same("total", 40, x.totalClosed());
        x.fire(0);
        Check.same("a fired one closes, too", 25, x.closedMinutes(0));
        x.cancel(1);
        Check.same("a cancelled one does not", 15, x.totalClosed());
        Check.noIndex("road 3", () -> x.closedMinutes(3));
        Check.noIndex("road -1", () -> x.closedMinutes(-1));
    }

    private static void promise45IsClosed() {
        BlastPlanner x = Texts.loaded(TWO_ROADS);
        x.schedule(0, 600);
        int[] minutes = {589, 590, 604, 605, -1, 1440, Integer.MIN_VALUE, Integer.MAX_VALUE};
        boolean[] due = {false, true, true, false, false, false, false, false};
        for (int i = 0; i < minutes.length; i++) {
            Check.same("minute " + minutes[i], due[i], x.isClosed(0, minutes[i]));
        }
        Check.same("another road", false, x.isClosed(1, 600));
        Check.noIndex("road 3", () -> x.isClosed(3, 0) ? 1 : 0);
        Check.noIndex("road -1", () -> x.isClosed(-1, 0) ? 1 : 0);
    }

    private static void promises46To48Closures() {
        BlastPlanner x = Texts.loaded("day 0 1439;space 0;road r 0 0 0 0;road s 999 0 999 0;"
                + "blast a 0 0 1 1 at 0;blast b 0 0 1 1 at 0;blast c 0 0 1 1 at 0;blast d 0 0 1 1 at 0;");
        Check.same("no run", 0, x.closures(0));
        Check.same("no start", -1, x.closureStart(0, 0));
        Check.same("no length", -1, x.closureLength(0, 0));
        x.schedule(0, 700);
        x.schedule(1, 600);
        x.schedule(2, 615);
        runs(x, new int[] {590, 690}, new int[] {30, 15});
        x.schedule(2, 616);
        runs(x, new int[] {590, 606, 690}, new int[] {15, 15, 15});
        x.schedule(3, 608);
        runs(x, new int[] {590, 690}, new int[] {31, 15});
        x.schedule(3, 700);
        runs(x, new int[] {590, 606, 690}, new int[] {15, 15, 15});
        Check.same("another road", 0, x.closures(1));
        Check.same("run -1", -1, x.closureStart(0, -1));
        Check.same("length of run -1", -1, x.closureLength(0, -1));
        Check.same("run MAX", -1, x.closureStart(0, Integer.MAX_VALUE));
        Check.same("length of run MIN", -1, x.closureLength(0, Integer.MIN_VALUE));
        for (int wrong : new int[] {-1, 2}) {
            Check.noIndex("runs of road " + wrong, () -> x.closures(wrong));
            Check.noIndex("run of road " + wrong, () -> x.closureStart(wrong, 0));
            Check.noIndex("length in road " + wrong, () -> x.closureLength(wrong, 0));
        }
    }

    private static void runs(BlastPlanner x, int[] starts, int[] lengths) {
        Check.same("number of runs", starts.length, x.closures(0));
        for (int k = 0; k < starts.length; k++) {
            Check.same("start of run " + k, starts[k], x.closureStart(0, k));
            Check.same("length of run " + k, lengths[k], x.closureLength(0, k));
        }
        Check.same("start behind the last run", -1, x.closureStart(0, starts.length));
        Check.same("length behind the last run", -1, x.closureLength(0, starts.length));
    }

    private static void edgesOfTheDay() {
        BlastPlanner x = Texts.loaded("day 0 1439;close 10 5;space 0;road r 0 0 0 0;blast a 0 0 1 1 at 0;blast b 0 0 1 1 at 0;");
        x.schedule(0, 3);
        x.schedule(1, 1438);
        runs(x, new int[] {0, 1428}, new int[] {8, 12});
        Check.same("minute 0", true, x.isClosed(0, 0));
        Check.same("minute 1439", true, x.isClosed(0, 1439));
        Check.same("minute 1440", false, x.isClosed(0, 1440));
        Check.same("minute -1", false, x.isClosed(0, -1));
        Check.same("open minutes", 1420, x.openMinutes(0, 0, 1439));
    }

    private static void closingOfNothing() {
        BlastPlanner x = Texts.loaded("day 0 1439;close 0 0;road r 0 0 0 0;blast a 0 0 1 1 at 0;");
        x.schedule(0, 600);
        runs(x, new int[] {}, new int[] {});
        Check.same("nothing closed", 0, x.totalClosed());
        Check.same("no busiest hour", -1, x.busiestHour());
        BlastPlanner y = Texts.loaded("day 0 1439;close 5 0;road r 0 0 0 0;blast a 0 0 1 1 at 0;");
        y.schedule(0, 0);
        runs(y, new int[] {}, new int[] {});
        y.schedule(0, 600);
        runs(y, new int[] {595}, new int[] {5});
        BlastPlanner z = Texts.loaded("day 0 1439;close 0 60;road r 0 0 0 0;blast a 0 0 1 1 at 0;");
        z.schedule(0, 1400);
        runs(z, new int[] {1400}, new int[] {40});
    }

    private static void promise49OpenMinutes() {
        BlastPlanner x = Texts.loaded(TWO_ROADS);
        x.schedule(0, 600);
        x.schedule(1, 700);
        Check.same("all day", 1410, x.openMinutes(0, 0, 1439));
        Check.same("one open minute", 1, x.openMinutes(0, 589, 589));
        Check.same("one closed minute", 0, x.openMinutes(0, 590, 590));
        Check.same("the last closed minute", 0, x.openMinutes(0, 604, 604));
        Check.same("over the end", 1, x.openMinutes(0, 604, 605));
        Check.same("between", 85, x.openMinutes(0, 600, 694));
        Check.same("around both", 87, x.openMinutes(0, 589, 705));
        Check.same("the last minute of the day", 1, x.openMinutes(0, 1439, 1439));
        Check.same("the first minute of the day", 1, x.openMinutes(0, 0, 0));
        Check.badArgument("first -1", () -> x.openMinutes(0, -1, 5));
        Check.badArgument("last before first", () -> x.openMinutes(0, 6, 5));
        Check.badArgument("last 1440", () -> x.openMinutes(0, 6, 1440));
        Check.badArgument("both 1440", () -> x.openMinutes(0, 1440, 1440));
        Check.noIndex("road 3 first", () -> x.openMinutes(3, 6, 5));
        Check.noIndex("road -1", () -> x.openMinutes(-1, 5, 6));
    }

    private static void promise50SharedMinutes() {
        BlastPlanner x = Texts.loaded(TWO_ROADS);
        x.schedule(0, 600);
        Check.same("nothing of s", 0, x.sharedMinutes(0, 1));
        x.schedule(2, 612);
        Check.same("an overlap", 3, x.sharedMinutes(0, 1));
        Check.same("the other way", 3, x.sharedMinutes(1, 0));
        Check.same("the same road", 15, x.sharedMinutes(0, 0));
        x.schedule(1, 650);
        Check.same("and a common blast", 18, x.sharedMinutes(0, 1));
        x.schedule(1, 606);
        Check.same("one run of each", 15, x.sharedMinutes(1, 0));
        Check.same("no minutes", 0, x.sharedMinutes(0, 2));
        for (int wrong : new int[] {-1, 3}) {
            Check.noIndex("road " + wrong, () -> x.sharedMinutes(wrong, 0));
            Check.noIndex("other road " + wrong, () -> x.sharedMinutes(0, wrong));
        }
    }

    private static void promise51BusiestHour() {
        BlastPlanner x = Texts.loaded(TWO_ROADS);
        Check.same("none", -1, x.busiestHour());
        x.schedule(0, 600);
        Check.same("before the hour", 9, x.busiestHour());
        x.schedule(0, 605);
        Check.same("in the hour", 10, x.busiestHour());
        x.schedule(2, 700);
        Check.same("another hour, more minutes", 11, x.busiestHour());
        x.schedule(0, 620);
        Check.same("the first of several", 10, x.busiestHour());
        x.schedule(1, 800);
        Check.same("two roads at once", 13, x.busiestHour());
        x.schedule(1, 622);
        Check.same("overlapping minutes count once a road", 10, x.busiestHour());
        x.cancel(1);
        x.cancel(2);
        x.schedule(0, 1439);
        Check.same("the last hour", 23, x.busiestHour());
        x.schedule(0, 0);
        Check.same("the first hour", 0, x.busiestHour());
    }

    private static void promises52To55Sirens() {
        BlastPlanner x = Texts.loaded("day 0 1439;space 0;close 0 9;blast a 0 0 1 1 at 0;blast b 0 0 1 1 at 0;blast c 0 0 1 1 at 0;");
        Check.same("none", 0, x.sirenCount());
        Check.badArgument("no siren", () -> x.sirenMinute(0));
        x.schedule(2, 600);
        sirens(x, "590 0 2, 599 1 2, 609 2 2");
        x.fire(2);
        x.schedule(0, 619);
        sirens(x, "590 0 2, 599 1 2, 609 0 0, 609 2 2, 618 1 0, 628 2 0");
        x.schedule(1, 610);
        sirens(x, "590 0 2, 599 1 2, 600 0 1, 609 0 0, 609 1 1, 609 2 2, 618 1 0, 619 2 1, 628 2 0");
        x.schedule(1, 619);
        sirens(x, "590 0 2, 599 1 2, 609 0 0, 609 0 1, 609 2 2, 618 1 0, 618 1 1, 628 2 0, 628 2 1");
        x.cancel(0);
        sirens(x, "590 0 2, 599 1 2, 609 0 1, 609 2 2, 618 1 1, 628 2 1");
    }

    private static void sirensAtTheEdges() {
        BlastPlanner x = Texts.loaded("day 0 1439;space 0;close 0 0;blast a 0 0 1 1 at 0;blast b 0 0 1 1 at 0;");
        x.schedule(1, 0);
        sirens(x, "-10 0 1, -1 1 1, 0 2 1");
        x.schedule(0, 9);
        sirens(x, "-10 0 1, -1 0 0, -1 1 1, 0 2 1, 8 1 0, 9 2 0");
        BlastPlanner y = Texts.loaded("day 0 1439;close 0 60;space 0;blast a 0 0 1 1 at 0;blast b 0 0 1 1 at 0;blast c 0 0 1 1 at 0;"
                + "blast d 0 0 1 1 at 0;blast e 0 0 1 1 at 0;blast f 0 0 1 1 at 0;");
        for (int b = 5; b >= 0; b--) {
            y.schedule(b, 1439);
        }
        sirens(y, "1429 0 0, 1429 0 1, 1429 0 2, 1429 0 3, 1429 0 4, 1429 0 5, "
                + "1438 1 0, 1438 1 1, 1438 1 2, 1438 1 3, 1438 1 4, 1438 1 5, "
                + "1499 2 0, 1499 2 1, 1499 2 2, 1499 2 3, 1499 2 4, 1499 2 5");
    }

    /** Each siren as its minute, kind and blast; what stands behind the last one must be refused. */
    private static void sirens(BlastPlanner x, String due) {
        int count = x.sirenCount();
        StringBuilder got = new StringBuilder();
        for (int k = 0; k < count; k++) {
            got.append(k == 0 ? "" : ", ").append(x.sirenMinute(k)).append(' ').append(x.sirenKind(k))
                    .append(' ').append(x.sirenBlast(k));
        }
        Check.same("sirens", due, got.toString());
        for (int wrong : new int[] {-1, count, Integer.MIN_VALUE, Integer.MAX_VALUE}) {
            Check.badArgument("minute of siren " + wrong, () -> x.sirenMinute(wrong));
            Check.badArgument("kind of siren " + wrong, () -> x.sirenKind(wrong));
            Check.badArgument("blast of siren " + wrong, () -> x.sirenBlast(wrong));
        }
    }
}
