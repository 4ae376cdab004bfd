/** Promises 56 to 62: plans, undo and the formatted text; and the four examples of the document. */
public final class PlanTest {
    private static final String ROAD = "road r 0 0 0 0;";

    public static void main(String[] args) {
        promises56And57SmallestTimes();
        planWithFixedTimes();
        planAgainstReasons();
        planWithoutOpenBlasts();
        planRefused();
        planIsNeverStale();
        promise58ApplyPlan();
        promises59And60Undo();
        undoOfEachAction();
        undoDropsTheOldest();
        promise61Format();
        promise62FormattedByte();
        Check.finish("PlanTest");
    }

    private static String blasts(int count) {
        StringBuilder text = new StringBuilder();
        for (int i = 0; i < count; i++) {
            text.append("blast ").append((char) ('a' + i)).append(" 0 0 1 1 at 0;");
        }
        return text.toString();
    }

    private static void plan(String what, BlastPlanner x, int length, int... times) {
        Check.same(what + ": length", length, x.planLength());
        for (int b = 0; b < times.length; b++) {
            Check.same(what + ": time of " + b, times[b], x.planTime(b));
        }
        Check.same(what + ": length again", length, x.planLength());
    }

    private static void promises56And57SmallestTimes() {
        plan("apart", Texts.loaded("day 600 720;step 60;" + ROAD + blasts(3)), 45, 600, 660, 720);
        plan("together", Texts.loaded("day 600 720;step 60;space 0;" + ROAD + blasts(3)), 15, 600, 600, 600);
        plan("side by side", Texts.loaded("day 600 640;step 10;close 10 5;space 10;" + ROAD + blasts(4)), 45, 600, 610, 620, 630);
        plan("as near as the spacing", Texts.loaded("day 600 640;step 8;space 10;" + ROAD + blasts(2)), 30, 600, 616);
        plan("no roads", Texts.loaded("day 600 720;step 60;" + blasts(2)), 0, 600, 660);
        plan("too few start minutes", Texts.loaded("day 600 720;step 60;" + ROAD + blasts(4)), -1, -1, -1, -1, -1);
        plan("just enough start minutes", Texts.loaded("day 600 780;step 60;" + ROAD + blasts(4)), 60, 600, 660, 720, 780);
        plan("cut by the day", Texts.loaded("day 0 1439;step 240;close 60 0;" + ROAD + blasts(2)), 60, 0, 240);
        plan("a later time is shorter", Texts.loaded("day 600 1439;step 200;close 0 60;" + ROAD + blasts(1)), 40, 1400);
        plan("the end of the day is shorter", Texts.loaded("day 600 1430;step 83;close 0 60;" + ROAD + blasts(1)), 10, 1430);
        plan("12 start minutes", Texts.loaded("day 0 11;step 1;close 1 1;space 1;" + ROAD + blasts(4)), 4, 0, 1, 2, 3);
    }

    private static void planWithFixedTimes() {
        BlastPlanner x = Texts.loaded("day 600 720;step 20;close 20 20;space 20;road r 0 0 0 0;road s 100 0 100 0;"
                + "blast a 0 0 1 1 at 0;blast b 0 0 100 1 at 0;blast c 100 0 1 1 at 0;blast d 0 0 1 1 at 0;");
        x.schedule(1, 660);
        x.schedule(3, 710);
        x.retime(3, 1);
        plan("beside the fixed ones", x, 90 + 60, 680, 660, 640, 710);
        x.fire(1);
        plan("a fired one is fixed, too", x, 90 + 60, 680, 660, 640, 710);
        x.schedule(3, 700);
        plan("between", x, 80 + 60, 680, 660, 640, 700);
        Check.same("the plan changes nothing", -1, x.timeOf(0));
        Check.same("the plan records nothing", 5, x.undoDepth());
    }

    private static void planAgainstReasons() {
        plan("too strong", Texts.loaded("day 600 720;near n 0 0 0;" + ROAD + blasts(1)), -1, -1);
        plan("quiet", Texts.loaded("day 600 720;near n 3 0 9999 600 to 660;" + ROAD + blasts(1)), 15, 660);
        plan("dust", Texts.loaded("day 600 720;near n 9 0 9999;wind 10 2 9;" + ROAD + blasts(1)), 15, 660);
        BlastPlanner x = Texts.loaded("day 600 660;near n 0 0 1000;" + ROAD + blasts(1) + "blast b 0 0 1 1 at 0 1 at 0;");
        plan("one of two is too strong", x, -1, -1, -1);
        x.retime(1, 0);
        Check.same("its time stays open", -1, x.planTime(0));
        x.retime(1, 8);
        plan("none is too strong", x, 30, 600, 660);
        x.schedule(1, 600);
        x.retime(1, 0);
        plan("a fixed one need not be allowed", x, 30, 660, 600);
        BlastPlanner y = Texts.loaded("day 600 660;" + ROAD + blasts(2));
        y.schedule(0, 607);
        plan("no room beside a fixed one", y, 30, 607, 660);
        y.schedule(0, 630);
        plan("room on both sides", y, 30, 630, 600);
    }

    private static void planWithoutOpenBlasts() {
        BlastPlanner x = Texts.loaded("day 600 720;step 60;" + ROAD + blasts(2));
        x.schedule(0, 601);
        x.schedule(1, 621);
        plan("nothing open", x, 30, 601, 621);
        Check.same("applying an empty plan", 0, x.applyPlan());
        Check.same("is recorded", 3, x.undoDepth());
        plan("no blasts", Texts.loaded("day 600 720;" + ROAD), 0);
    }

    private static void planRefused() {
        BlastPlanner x = Texts.loaded("day 600 720;step 60;space 0;" + ROAD + blasts(5));
        refusals("5 open", x);
        x.schedule(4, 610);
        plan("4 open", x, 25, 600, 600, 600, 600, 610);
        BlastPlanner y = Texts.loaded("day 0 12;step 1;" + ROAD + blasts(1));
        refusals("13 start minutes", y);
        y.schedule(0, 0);
        refusals("13 start minutes and nothing open", y);
        refusals("13 start minutes and nothing at all", Texts.loaded("day 0 12;step 1;"));
        plan("12 start minutes", Texts.loaded("day 0 12;step 1;day 1 12;" + ROAD + blasts(1)), 6, 1);
        Check.noIndex("blast 1 first", () -> y.planTime(1));
        Check.noIndex("blast -1 first", () -> y.planTime(-1));
        BlastPlanner z = Texts.loaded(blasts(1));
        Check.noIndex("blast 1", () -> z.planTime(1));
        Check.noIndex("blast MIN", () -> z.planTime(Integer.MIN_VALUE));
    }

    private static void refusals(String what, BlastPlanner x) {
        int depth = x.undoDepth();
        Check.badState(what + ": length", x::planLength);
        Check.badState(what + ": apply", x::applyPlan);
        if (x.blastCount() > 0) {
            Check.badState(what + ": time", () -> x.planTime(0));
        }
        Check.same(what + ": nothing is recorded", depth, x.undoDepth());
    }

    private static void planIsNeverStale() {
        BlastPlanner x = Texts.loaded("day 600 720;step 60;near n 0 0 9999;" + ROAD + blasts(2));
        plan("at first", x, 30, 600, 660);
        x.schedule(0, 660);
        plan("after schedule", x, 30, 660, 600);
        x.cancel(0);
        plan("after cancel", x, 30, 600, 660);
        x.undo();
        plan("after undo", x, 30, 660, 600);
        x.applyPlan();
        plan("after applyPlan", x, 30, 660, 600);
        x.cancel(0);
        plan("after another cancel", x, 30, 660, 600);
        Texts.load(x, "day 700 720;" + ROAD + blasts(2));
        plan("after load", x, -1, -1, -1);
        Texts.load(x, "near n 0 0 1500;" + ROAD + "blast a 0 0 1 1 at 0 1 at 0;");
        plan("too strong", x, -1, -1);
        x.retime(0, 9);
        plan("after retime", x, 15, 480);
        Texts.type(x, "day 5");
        Check.badArgument("a wrong text", x::load);
        plan("after a wrong text", x, 15, 480);
    }

    private static void promise58ApplyPlan() {
        BlastPlanner x = Texts.loaded("day 600 720;step 60;" + ROAD + blasts(3));
        x.schedule(1, 600);
        Check.same("open before", 2, x.applyPlan());
        Check.same("time of a", 660, x.timeOf(0));
        Check.same("time of b", 600, x.timeOf(1));
        Check.same("time of c", 720, x.timeOf(2));
        Check.same("recorded as one", 2, x.undoDepth());
        x.undo();
        Check.same("undone: a", -1, x.timeOf(0));
        Check.same("undone: c", -1, x.timeOf(2));
        Check.same("undone: b stays", 600, x.timeOf(1));
        Check.same("planned ones are not fired", false, x.isFired(2));
        BlastPlanner y = Texts.loaded("day 600 720;step 60;" + ROAD + blasts(4));
        Check.badState("no plan", y::applyPlan);
        Check.same("nothing is recorded", 0, y.undoDepth());
        Check.same("nothing is changed", -1, y.timeOf(0));
    }

    private static void promises59And60Undo() {
        BlastPlanner x = Texts.loaded(blasts(2));
        Check.same("nothing to undo", -1, x.undo());
        Check.same("depth 0", 0, x.undoDepth());
        x.schedule(0, 500);
        x.schedule(0, 500);
        Check.same("depth 2", 2, x.undoDepth());
        x.format(0);
        x.append(0x20202020, 0x20202020, 0x20202020, 0x20202020, 0x2020203b);
        Check.same("one left", 1, x.undo());
        Check.same("the same time", 500, x.timeOf(0));
        Check.same("none left", 0, x.undo());
        Check.same("open", -1, x.timeOf(0));
        Check.same("no more", -1, x.undo());
        Check.same("the formatted text stays", "a 8:20 w1 r0", Texts.formatted(x));
        Check.badArgument("the buffer stays", x::load);
        Check.same("the buffer's bytes stay", 19, x.errorOffset());
        x.schedule(1, 600);
        Check.same("recorded after undo", 1, x.undoDepth());
    }

    private static void undoOfEachAction() {
        BlastPlanner x = Texts.loaded("near n 0 0 1000;day 600 720;blast a 0 0 1 1 at 3 1 at 99;blast b 0 0 1 1 at 50;");
        x.schedule(0, 600);
        x.retime(0, 2);
        x.fire(0);
        x.applyPlan();
        x.cancel(1);
        Check.same("undo cancel", 4, x.undo());
        Check.same("time again", 660, x.timeOf(1));
        Check.same("undo applyPlan", 3, x.undo());
        Check.same("open again", -1, x.timeOf(1));
        Check.same("still fired", true, x.isFired(0));
        Check.same("undo fire", 2, x.undo());
        Check.same("not fired", false, x.isFired(0));
        Check.same("still scheduled", 600, x.timeOf(0));
        Check.same("next again", 0, x.nextBlast(0));
        Check.same("still retimed", 2, x.delay(0, 1));
        Check.same("still too strong", 1, x.tooStrongAt(0));
        Check.same("undo retime", 1, x.undo());
        Check.same("first delay again", 3, x.delay(0, 0));
        Check.same("second delay again", 99, x.delay(0, 1));
        Check.same("window again", 1, x.windowSize(0));
        Check.same("window start again", 3, x.windowStart(0));
        Check.same("not too strong again", 0, x.tooStrongAt(0));
        Check.same("vibration again", 1000, x.vibration(0, 0));
        Check.same("undo schedule", 0, x.undo());
        Check.same("all open", -1, x.timeOf(0));
    }

    private static void undoDropsTheOldest() {
        BlastPlanner x = Texts.loaded("day 0 1439;" + blasts(1));
        for (int i = 0; i < 40; i++) {
            x.schedule(0, i);
            Check.same("depth " + i, Math.min(i + 1, 16), x.undoDepth());
        }
        for (int left = 15; left >= 0; left--) {
            Check.same("undo to " + left, left, x.undo());
            Check.same("time at " + left, 23 + left, x.timeOf(0));
        }
        Check.same("no more", -1, x.undo());
        Check.same("the time stays", 23, x.timeOf(0));
        for (int i = 0; i < 10; i++) {
            x.schedule(0, 100 + i);
        }
        Check.same("again", 9, x.undo());
        Check.same("time again", 108, x.timeOf(0));
    }

    private static void promise61Format() {
        BlastPlanner x = Texts.loaded("day 0 1439;space 0;road r 0 0 0 0;road s 0 0 0 0;blast abcdef 0 0 500" + " 999 at 0".repeat(12)
                + ";blast z 999 999 1 7 at 0;");
        format(x, 0, "abcdef - w11988 r2");
        format(x, 1, "z - w7 r0");
        x.schedule(1, 0);
        format(x, 1, "z 0:00 w7 r0");
        x.schedule(1, 9);
        format(x, 1, "z 0:09 w7 r0");
        x.schedule(1, 70);
        format(x, 1, "z 1:10 w7 r0");
        x.schedule(1, 599);
        format(x, 1, "z 9:59 w7 r0");
        x.schedule(0, 1439);
        format(x, 0, "abcdef 23:59 w11988 r2");
        x.fire(1);
        x.fire(0);
        format(x, 0, "abcdef 23:59 w11988 r2 fired");
        format(x, 1, "z 9:59 w7 r0 fired");
        Check.noIndex("blast 2", () -> x.format(2));
        Check.noIndex("blast -1", () -> x.format(-1));
        Check.same("the text stays after a refusal", "z 9:59 w7 r0 fired", Texts.formatted(x));
        BlastPlanner y = Texts.loaded("road a 0 0 0 0;road b 0 0 0 0;road c 0 0 0 0;road d 0 0 0 0;road e 0 0 0 0;road f 0 0 0 0;"
                + "blast at 0 0 1 10 at 0;blast c 0 0 1 100 at 0;blast d 0 0 1 500 at 0 500 at 0;blast e 0 0 1 999 at 0 1 at 8;");
        format(y, 0, "at - w10 r6");
        format(y, 1, "c - w100 r6");
        format(y, 2, "d - w1000 r6");
        format(y, 3, "e - w999 r6");
        Texts.load(y, "blast f 0 0 1" + " 999 at 0".repeat(10) + " 10 at 0;");
        format(y, 0, "f - w10000 r0");
    }

    private static void format(BlastPlanner x, int blast, String due) {
        Check.same("length of " + due, due.length(), x.format(blast));
        Check.same("format", due, Texts.formatted(x));
    }

    private static void promise62FormattedByte() {
        BlastPlanner x = Texts.loaded("blast ab 0 0 1 1 at 0;");
        Check.same("nothing formatted", -1, x.formattedByte(0));
        int length = x.format(0);
        Check.same("first", 'a', x.formattedByte(0));
        Check.same("last", '0', x.formattedByte(length - 1));
        Check.same("behind", -1, x.formattedByte(length));
        Check.same("before", -1, x.formattedByte(-1));
        Check.same("far before", -1, x.formattedByte(Integer.MIN_VALUE));
        Check.same("far behind", -1, x.formattedByte(Integer.MAX_VALUE));
    }
}
