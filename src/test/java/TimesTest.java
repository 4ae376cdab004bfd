/** Promises 30 to 42: times, reasons, start minutes and the actions on one blast. */
public final class TimesTest {
    private static final String THREE = "day 600 720;step 20;blast a 0 0 10 5 at 0;blast b 0 0 10 5 at 0;blast c 0 0 10 5 at 0;";

    public static void main(String[] args) {
        promises30And31TimeOfAndIsFired();
        promise32ReasonOrder();
        promise32Edges();
        promise32Crowded();
        promise33Earliest();
        promise34Latest();
        promises35And37Counts();
        promise36LongestAllowed();
        promise38NextBlast();
        promise39Schedule();
        promise40Cancel();
        promise41Fire();
        promise42Retime();
        Check.finish("TimesTest");
    }

    private static void promises30And31TimeOfAndIsFired() {
        BlastPlanner x = Texts.loaded(THREE);
        Check.same("open", -1, x.timeOf(0));
        Check.same("open is not fired", false, x.isFired(0));
        x.schedule(0, 700);
        Check.same("scheduled", 700, x.timeOf(0));
        Check.same("scheduled is not fired", false, x.isFired(0));
        x.fire(0);
        Check.same("a fired one keeps its time", 700, x.timeOf(0));
        Check.same("fired", true, x.isFired(0));
        Check.same("the others", false, x.isFired(1));
        for (int wrong : new int[] {-1, 3, Integer.MAX_VALUE}) {
            Check.noIndex("time of " + wrong, () -> x.timeOf(wrong));
            Check.noIndex("fired " + wrong, () -> x.isFired(wrong) ? 1 : 0);
        }
    }

    private static void promise32ReasonOrder() {
        // all reasons apply at minute 600; the text loses them one by one
        String[] parts = {"day 601 700;", "near v 0 0 0;", "near q 1 0 9999 0 to 1440;", "wind 10 2 20;near d 9 0 9999;", ""};
        int[] due = {BlastPlanner.OUT_OF_HOURS, BlastPlanner.VIBRATION, BlastPlanner.QUIET, BlastPlanner.DUST,
            BlastPlanner.CROWDED};
        for (int first = 0; first < parts.length; first++) {
            StringBuilder text = new StringBuilder("blast a 0 0 10 1 at 0;blast b 999 999 1 1 at 0;space 30;");
            for (int i = parts.length - 1; i >= first; i--) {
                text.append(parts[i]);
            }
            BlastPlanner x = Texts.loaded(text.toString());
            x.schedule(1, 610);
            Check.same("reason from part " + first, due[first], x.reason(0, 600));
        }
    }

    private static void promise32Edges() {
        BlastPlanner x = Texts.loaded("day 100 1200;near a 30 0 9999 200 to 300;near b 0 31 9999 400 to 500;"
                + "near c 40 0 9999;wind 10 2 1;blast a 0 0 10 1 at 0;blast b 0 0 11 1 at 0;blast c 999 0 500 1 at 0;");
        int[] minutes = {0, 99, 100, 199, 200, 299, 300, 400, 599, 600, 659, 660, 1200, 1201, 1439};
        int[] dueA = {1, 1, 0, 0, 3, 3, 0, 0, 0, 4, 4, 0, 0, 1, 1};
        int[] dueB = {1, 1, 0, 0, 3, 3, 0, 3, 0, 4, 4, 0, 0, 1, 1};
        int[] dueC = {1, 1, 0, 0, 3, 3, 0, 3, 0, 0, 0, 0, 0, 1, 1};
        for (int i = 0; i < minutes.length; i++) {
            Check.same("a at " + minutes[i], dueA[i], x.reason(0, minutes[i]));
            Check.same("b at " + minutes[i], dueB[i], x.reason(1, minutes[i]));
            Check.same("c at " + minutes[i], dueC[i], x.reason(2, minutes[i]));
        }
        Check.badArgument("minute -1", () -> x.reason(0, -1));
        Check.badArgument("minute 1440", () -> x.reason(0, 1440));
        Check.noIndex("blast 3 first", () -> x.reason(3, 1440));
        Check.noIndex("blast -1", () -> x.reason(-1, 500));
    }

    private static void promise32Crowded() {
        BlastPlanner x = Texts.loaded("space 20;blast a 0 0 1 1 at 0;blast b 0 0 1 1 at 0;blast c 0 0 1 1 at 0;");
        x.schedule(0, 600);
        Check.same("its own time", 0, x.reason(0, 600));
        int[] minutes = {580, 581, 600, 619, 620};
        int[] due = {0, 5, 5, 5, 0};
        for (int i = 0; i < minutes.length; i++) {
            Check.same("near a scheduled one " + minutes[i], due[i], x.reason(1, minutes[i]));
        }
        x.fire(0);
        for (int i = 0; i < minutes.length; i++) {
            Check.same("near a fired one " + minutes[i], due[i], x.reason(2, minutes[i]));
        }
        Check.same("a fired one itself", 0, x.reason(0, 610));
        x.schedule(1, 630);
        Check.same("a fired one near another", 5, x.reason(0, 620));
        BlastPlanner y = Texts.loaded("space 0;blast a 0 0 1 1 at 0;blast b 0 0 1 1 at 0;");
        y.schedule(0, 600);
        Check.same("no spacing", 0, y.reason(1, 600));
        BlastPlanner z = Texts.loaded("space 1;blast a 0 0 1 1 at 0;blast b 0 0 1 1 at 0;");
        z.schedule(0, 600);
        Check.same("spacing 1", 5, z.reason(1, 600));
        Check.same("spacing 1, next minute", 0, z.reason(1, 601));
    }

    private static void promise33Earliest() {
        BlastPlanner x = Texts.loaded(THREE + "near q 0 0 9999 620 to 661;");
        Check.same("from 0", 600, x.earliest(0, 0));
        Check.same("from the start", 600, x.earliest(0, 600));
        Check.same("behind it", 680, x.earliest(0, 601));
        Check.same("the last", 720, x.earliest(0, 720));
        Check.same("none", -1, x.earliest(0, 721));
        Check.same("none at the end", -1, x.earliest(0, 1439));
        x.schedule(1, 680);
        Check.same("others count", 700, x.earliest(0, 601));
        Check.same("its own time does not", 680, x.earliest(1, 601));
        Check.badArgument("from -1", () -> x.earliest(0, -1));
        Check.badArgument("from 1440", () -> x.earliest(0, 1440));
        Check.noIndex("blast 3 first", () -> x.earliest(3, -1));
        Check.same("only start minutes", -1, Texts.loaded("day 10 30;step 50;blast a 1 1 1 1 at 0;").earliest(0, 11));
    }

    private static void promise34Latest() {
        BlastPlanner x = Texts.loaded(THREE + "near q 0 0 9999 620 to 661;");
        Check.same("to the end", 720, x.latest(0, 1439));
        Check.same("to the last", 720, x.latest(0, 720));
        Check.same("before it", 700, x.latest(0, 719));
        Check.same("over a quiet window", 600, x.latest(0, 679));
        Check.same("the first", 600, x.latest(0, 600));
        Check.same("none", -1, x.latest(0, 599));
        Check.same("none at 0", -1, x.latest(0, 0));
        x.schedule(1, 690);
        Check.same("others count", 600, x.latest(0, 700));
        Check.badArgument("to -1", () -> x.latest(0, -1));
        Check.badArgument("to 1440", () -> x.latest(0, 1440));
        Check.noIndex("blast -1 first", () -> x.latest(-1, 1440));
        Check.same("not behind the last start", 10, Texts.loaded("day 10 30;step 50;blast a 1 1 1 1 at 0;").latest(0, 30));
    }

    private static void promises35And37Counts() {
        BlastPlanner x = Texts.loaded("day 0 1439;step 10;near q 30 0 99999 30 to 60;near v 999 999 0;wind 2 2 1;"
                + "blast a 0 0 10 1 at 0;blast b 0 0 10 1 at 0;blast c 999 999 1 1 at 0;");
        x.schedule(0, 1000);
        int[] due = {144 - 3 - 6 - 3, 0, 0, 3, 6, 3};
        for (int r = 0; r < due.length; r++) {
            Check.same("reason " + r, due[r], x.reasonCount(1, r));
        }
        Check.same("allowed", due[0], x.allowedCount(1));
        Check.same("its own time does not count", due[0] + 3, x.allowedCount(0));
        Check.same("too strong", 144, x.reasonCount(2, BlastPlanner.VIBRATION));
        Check.same("too strong everywhere", 0, x.allowedCount(2));
        Check.badArgument("reason 6", () -> x.reasonCount(0, 6));
        Check.badArgument("reason -1", () -> x.reasonCount(0, -1));
        Check.noIndex("blast 3 first", () -> x.reasonCount(3, 6));
        Check.noIndex("allowed of blast 3", () -> x.allowedCount(3));
        Check.noIndex("allowed of blast -1", () -> x.allowedCount(-1));
    }

    private static void promise36LongestAllowed() {
        BlastPlanner x = Texts.loaded("day 0 100;step 10;near q 0 0 99999 30 to 31 80 to 81;near v 999 999 0;"
                + "blast a 0 0 1 1 at 0;blast b 999 999 1 1 at 0;blast c 500 500 1 1 at 0;");
        Check.same("in the middle", 4, x.longestAllowed(0));
        Check.same("none", 0, x.longestAllowed(1));
        Check.same("all", 11, x.longestAllowed(2));
        x.schedule(2, 60);
        Check.same("at the beginning", 3, x.longestAllowed(0));
        Check.noIndex("blast 3", () -> x.longestAllowed(3));
        BlastPlanner y = Texts.loaded("day 0 100;step 10;near q 0 0 99999 30 to 31;blast a 0 0 1 1 at 0;");
        Check.same("at the end", 7, y.longestAllowed(0));
    }

    private static void promise38NextBlast() {
        BlastPlanner x = Texts.loaded("day 0 1439;space 0;blast a 0 0 1 1 at 0;blast b 0 0 1 1 at 0;blast c 0 0 1 1 at 0;");
        Check.same("none", -1, x.nextBlast(0));
        x.schedule(0, 1439);
        x.schedule(1, 0);
        x.schedule(2, 0);
        Check.same("any int", 1, x.nextBlast(Integer.MIN_VALUE));
        Check.same("the lowest of several", 1, x.nextBlast(0));
        Check.same("behind them", 0, x.nextBlast(1));
        Check.same("at the last", 0, x.nextBlast(1439));
        Check.same("behind the last", -1, x.nextBlast(1440));
        Check.same("far behind", -1, x.nextBlast(Integer.MAX_VALUE));
        x.fire(1);
        Check.same("a fired one does not count", 2, x.nextBlast(0));
        x.cancel(2);
        Check.same("an open one does not count", 0, x.nextBlast(0));
    }

    private static void promise39Schedule() {
        BlastPlanner x = Texts.loaded(THREE);
        Check.same("the first time", -1, x.schedule(0, 601));
        Check.same("another time", 601, x.schedule(0, 610));
        Check.same("the same time", 610, x.schedule(0, 610));
        Check.same("records each", 3, x.undoDepth());
        Check.badState("crowded", () -> x.schedule(1, 624));
        Check.badState("out of hours", () -> x.schedule(1, 599));
        Check.badState("behind the day", () -> x.schedule(1, 721));
        Check.badArgument("minute 1440", () -> x.schedule(1, 1440));
        Check.badArgument("minute -1", () -> x.schedule(1, -1));
        Check.noIndex("blast 3 first", () -> x.schedule(3, -1));
        Check.noIndex("blast -1", () -> x.schedule(-1, 600));
        Check.same("refused ones record nothing", 3, x.undoDepth());
        Check.same("refused ones change nothing", -1, x.timeOf(1));
        Check.same("just far enough", -1, x.schedule(1, 625));
        x.fire(0);
        Check.badState("fired", () -> x.schedule(0, 610));
        Check.badArgument("fired, wrong minute first", () -> x.schedule(0, 1440));
        Check.same("the fired one stays", 610, x.timeOf(0));
        Check.same("the last minute of the day", 625, x.schedule(1, 720));
    }

    private static void promise40Cancel() {
        BlastPlanner x = Texts.loaded(THREE);
        Check.badState("open", () -> x.cancel(0));
        x.schedule(0, 650);
        Check.same("cancelled", 650, x.cancel(0));
        Check.same("open now", -1, x.timeOf(0));
        Check.same("recorded", 2, x.undoDepth());
        Check.badState("open again", () -> x.cancel(0));
        x.schedule(0, 650);
        x.fire(0);
        Check.badState("fired", () -> x.cancel(0));
        Check.same("the fired one stays", 650, x.timeOf(0));
        Check.same("refused ones record nothing", 4, x.undoDepth());
        Check.noIndex("blast 3", () -> x.cancel(3));
        Check.noIndex("blast -1", () -> x.cancel(-1));
    }

    private static void promise41Fire() {
        BlastPlanner x = Texts.loaded("space 0;" + THREE);
        Check.badState("open", () -> x.fire(0));
        x.schedule(0, 650);
        x.schedule(1, 650);
        x.schedule(2, 640);
        Check.badState("not the first in time", () -> x.fire(0));
        Check.same("the first in time", 640, x.fire(2));
        Check.badState("fired already", () -> x.fire(2));
        Check.badState("not the lowest", () -> x.fire(1));
        Check.same("the lowest", 650, x.fire(0));
        Check.same("the last", 650, x.fire(1));
        Check.same("recorded", 6, x.undoDepth());
        Check.noIndex("blast 3", () -> x.fire(3));
        Check.noIndex("blast -1", () -> x.fire(-1));
        BlastPlanner y = Texts.loaded("day 0 10;blast a 0 0 1 1 at 0;");
        y.schedule(0, 0);
        Check.same("minute 0", 0, y.fire(0));
    }

    private static void promise42Retime() {
        BlastPlanner x = Texts.loaded("near n 0 0 3000;blast a 0 0 1 1 at 0 2 at 0 3 at 0;blast b 0 0 1 1 at 5;");
        Check.same("gap 4", 5, x.retime(0, 4));
        Check.same("delay 0", 0, x.delay(0, 0));
        Check.same("delay 2", 8, x.delay(0, 2));
        Check.same("window start", 4, x.windowStart(0));
        Check.same("too strong", 1, x.tooStrongAt(0));
        Check.same("gap 800", 3, x.retime(0, 800));
        Check.same("delay at gap 800", 1600, x.delay(0, 2));
        Check.same("window start at gap 800", 1600, x.windowStart(0));
        Check.same("allowed now", 0, x.reason(0, 600));
        x.schedule(0, 600);
        Check.same("gap 0", 6, x.retime(0, 0));
        Check.same("keeps its time", 600, x.timeOf(0));
        Check.same("though it is not allowed", BlastPlanner.VIBRATION, x.reason(0, 600));
        Check.same("the other blast stays", 5, x.delay(1, 0));
        Check.same("recorded", 4, x.undoDepth());
        x.retime(0, 0);
        Check.same("recorded though nothing changes", 5, x.undoDepth());
        Check.badArgument("gap 801", () -> x.retime(0, 801));
        Check.badArgument("gap -1", () -> x.retime(0, -1));
        Check.noIndex("blast 2 first", () -> x.retime(2, -1));
        x.fire(0);
        Check.badState("fired", () -> x.retime(0, 8));
        Check.badArgument("fired, wrong gap first", () -> x.retime(0, 801));
        Check.same("refused ones record nothing", 6, x.undoDepth());
        Check.same("refused ones change nothing", 6, x.windowSize(0));
    }
}
