/** Each sentence on plans, undo and the formatted text that names a boundary: promises 56 to 62 and their words. */
public final class EdgePlanTest {
    private static final String ROAD = "road r 0 0 0 0;";

    public static void main(String[] args) {
        planWithoutOpenBlasts();
        fourOpenAndFive();
        twelveStartMinutesAndThirteen();
        noPlan();
        lexicographicallySmallest();
        leastLengthFirst();
        startMinutesOnly();
        plannedOnesCrowdEachOther();
        fixedOnesNeedNotBeAllowed();
        planAtTheEndsOfTheDay();
        planLengthCountsAllRoads();
        applyPlanToOpenOnes();
        planAfterLoad();
        dearPlansInAllCalls();
        nothingToUndo();
        sixteenActionsAndOneMore();
        undoAndRecordAgain();
        actionsThatChangeNothing();
        undoOfEachAction();
        undoOfTwelveDelays();
        undoKeepsTheRest();
        planAfterUndo();
        formatOfTimes();
        formatOfNumbers();
        formatReplacesTheText();
        formattedBytes();
        Check.finish("EdgePlanTest");
    }

    private static String blasts(int count) {
        StringBuilder text = new StringBuilder();
        for (int i = 0; i < count; i++) {
            text.append("blast ").append((char) ('a' + i)).append(" 0 0 1 1 at 0;");
        }
        return text.toString();
    }

    /** Compares the plan; times[b] is the time of blast b in it. */
    private static void plan(String what, BlastPlanner x, int length, int... times) {
        String before = ownTimes(x);
        Check.same(what + ": blasts", times.length, x.blastCount());
        Check.same(what + ": length", length, x.planLength());
        for (int b = 0; b < times.length; b++) {
            Check.same(what + ": time of " + b, times[b], x.planTime(b));
        }
        Check.same(what + ": length again", length, x.planLength());
        Check.same(what + ": a plan is only a plan", before, ownTimes(x));
    }

    private static String ownTimes(BlastPlanner x) {
        StringBuilder text = new StringBuilder().append(x.undoDepth());
        for (int b = 0; b < x.blastCount(); b++) {
            text.append(' ').append(x.timeOf(b));
        }
        return text.toString();
    }

    // ---- plans

    private static void planWithoutOpenBlasts() {
        plan("a new object", new BlastPlanner(), 0);
        plan("no blasts", Texts.loaded(ROAD), 0);
        BlastPlanner x = Texts.loaded("space 0;" + ROAD + blasts(6));
        for (int b = 0; b < 6; b++) {
            x.schedule(b, 500 + b);
        }
        plan("six scheduled", x, 20, 500, 501, 502, 503, 504, 505);
        x.fire(0);
        plan("one fired", x, 20, 500, 501, 502, 503, 504, 505);
        Check.same("none was open", 0, x.applyPlan());
        Check.same("recorded all the same", 8, x.undoDepth());
        Check.same("and undone", 7, x.undo());
        BlastPlanner none = new BlastPlanner();
        for (int i = 1; i <= 17; i++) {
            Check.same("no blasts at all", 0, none.applyPlan());
            Check.same("recorded", Math.min(i, 16), none.undoDepth());
        }
    }

    private static void fourOpenAndFive() {
        BlastPlanner x = Texts.loaded("space 0;" + ROAD + blasts(6));
        x.schedule(2, 600);
        Check.badState("5 open", x::planLength);
        Check.badState("5 open, time of an open one", () -> x.planTime(0));
        Check.badState("5 open, time of a scheduled one", () -> x.planTime(2));
        Check.badState("5 open, apply", x::applyPlan);
        x.schedule(4, 600);
        // with the two at 600 nothing more is closed
        plan("4 open", x, 15, 600, 600, 600, 600, 600, 600);
        Check.same("4 applied", 4, x.applyPlan());
        Check.same("as planned", 600, x.timeOf(5));
        x.undo();
        x.fire(2);
        plan("4 open and one fired", x, 15, 600, 600, 600, 600, 600, 600);
        x.cancel(4);
        Check.badState("5 open again", x::planLength);
    }

    private static void twelveStartMinutesAndThirteen() {
        plan("12 start minutes, 4 open", Texts.loaded("day 0 1439;step 120;" + ROAD + blasts(4)), 50, 0, 120, 240, 360);
        plan("12 start minutes and a rest", Texts.loaded("day 0 119;step 10;space 10;" + ROAD + blasts(1)), 5, 0);
        refusedPlan("13 start minutes", Texts.loaded("day 0 120;step 10;" + ROAD + blasts(1)));
        refusedPlan("1440 start minutes", Texts.loaded("day 0 1439;step 1;" + ROAD + blasts(1)));
        BlastPlanner x = Texts.loaded("day 0 12;step 1;" + ROAD + blasts(1));
        x.schedule(0, 12);
        refusedPlan("13 start minutes and nothing open", x);
        BlastPlanner none = Texts.loaded("day 0 12;step 1;");
        Check.badState("13 start minutes and no blasts", none::planLength);
        Check.badState("13 start minutes and no blasts, apply", none::applyPlan);
        plan("1 start minute", Texts.loaded("day 700 700;" + ROAD + blasts(1)), 15, 700);
    }

    private static void refusedPlan(String what, BlastPlanner x) {
        int depth = x.undoDepth();
        Check.badState(what + ": length", x::planLength);
        Check.badState(what + ": time", () -> x.planTime(0));
        Check.badState(what + ": apply", x::applyPlan);
        Check.same(what + ": depth", depth, x.undoDepth());
    }

    private static void noPlan() {
        plan("two for one start minute", Texts.loaded("day 700 700;" + ROAD + blasts(2)), -1, -1, -1);
        plan("too strong", Texts.loaded("near n 0 0 0;" + ROAD + blasts(1)), -1, -1);
        plan("three for two", Texts.loaded("day 600 660;" + ROAD + blasts(3)), -1, -1, -1, -1);
        BlastPlanner x = Texts.loaded("day 600 610;step 10;" + ROAD + blasts(2));
        x.schedule(1, 605);
        plan("its own time of a scheduled one", x, -1, -1, 605);
        x.fire(1);
        plan("its own time of a fired one", x, -1, -1, 605);
        Check.badState("nothing to apply", x::applyPlan);
        Check.same("nothing recorded", 2, x.undoDepth());
        // one of them could be placed, but a plan gives each open blast a time
        BlastPlanner y = Texts.loaded("near n 500 500 0;" + ROAD + blasts(1) + "blast b 500 500 1 1 at 0;");
        plan("one of two", y, -1, -1, -1);
    }

    private static void lexicographicallySmallest() {
        plan("all the same length", Texts.loaded("day 600 780;step 60;" + ROAD + blasts(3)), 45, 600, 660, 720);
        plan("without roads", Texts.loaded("day 600 780;step 60;" + blasts(4)), 0, 600, 660, 720, 780);
        plan("at once", Texts.loaded("day 600 780;step 60;space 0;" + ROAD + blasts(4)), 15, 600, 600, 600, 600);
        BlastPlanner x = Texts.loaded("day 600 780;step 60;" + ROAD + blasts(3));
        x.schedule(1, 600);
        plan("around a scheduled one", x, 45, 660, 600, 720);
        BlastPlanner y = Texts.loaded("day 600 780;step 60;near n 0 0 99999 600 to 601;blast z 500 500 1 1 at 0;" + blasts(2));
        plan("the first may use what the others may not", y, 0, 600, 660, 720);
    }

    private static void leastLengthFirst() {
        // beside the fixed one at 720 the closed minutes overlap
        BlastPlanner x = Texts.loaded("day 600 730;step 10;space 10;" + ROAD + blasts(2));
        Check.badState("14 start minutes", x::planLength);
        Texts.load(x, "day 620 730;step 10;space 10;" + ROAD + blasts(2));
        x.schedule(1, 720);
        plan("10 away closes 10 more", x, 25, 710, 720);
        x.schedule(1, 721);
        plan("9 away is crowded", x, 15 + 11, 710, 721);
        BlastPlanner y = Texts.loaded("day 600 720;step 30;close 30 30;space 30;" + ROAD + blasts(3));
        plan("side by side", y, 120, 600, 630, 660);
        BlastPlanner z = Texts.loaded("day 600 660;step 20;close 0 0;space 20;" + ROAD + blasts(3));
        plan("nothing is closed", z, 0, 600, 620, 640);
        plan("cut by the day", Texts.loaded("day 1199 1439;step 240;close 0 60;" + ROAD + blasts(1)), 1, 1439);
        plan("cut by the day before", Texts.loaded("day 0 240;step 240;close 60 0;" + ROAD + blasts(1)), 0, 0);
        plan("the second takes what is left", Texts.loaded("day 1199 1439;step 240;close 0 60;" + ROAD + blasts(2)), 61, 1199, 1439);
    }

    private static void startMinutesOnly() {
        BlastPlanner x = Texts.loaded("day 600 719;step 60;" + ROAD + blasts(2));
        x.schedule(0, 610);
        plan("not at 625, which is free", x, 30, 610, 660);
        x.schedule(0, 650);
        plan("not at 665, which is free", x, 30, 650, 600);
        Texts.load(x, "day 600 719;step 60;" + ROAD + blasts(3));
        x.schedule(0, 650);
        plan("not at 665 nor 719", x, -1, 650, -1, -1);
    }

    private static void plannedOnesCrowdEachOther() {
        plan("as near as the spacing", Texts.loaded("day 600 660;step 20;space 20;" + ROAD + blasts(4)), 60, 600, 620, 640, 660);
        plan("nearer than the spacing", Texts.loaded("day 600 660;step 20;space 21;" + ROAD + blasts(2)), 30, 600, 640);
        plan("too near for three", Texts.loaded("day 600 660;step 20;space 31;" + ROAD + blasts(3)), -1, -1, -1, -1);
        plan("the whole spacing", Texts.loaded("day 0 960;step 240;space 240;" + ROAD + blasts(4)), 50, 0, 240, 480, 720);
        plan("the day does not wrap", Texts.loaded("day 0 1439;step 240;space 240;close 1 1;" + ROAD + blasts(4)), 7, 0, 240, 480, 720);
    }

    private static void fixedOnesNeedNotBeAllowed() {
        BlastPlanner x = Texts.loaded("day 600 660;near n 0 0 1000;" + ROAD + "blast c 0 0 1 1 at 0 1 at 9;" + blasts(2));
        x.schedule(0, 600);
        x.retime(0, 0);
        plan("two open, one place", x, -1, 600, -1, -1);
        x.schedule(1, 660);
        x.cancel(0);
        x.retime(0, 8);
        x.schedule(0, 600);
        x.cancel(1);
        x.schedule(2, 630);
        x.retime(0, 0);
        Check.same("not allowed any longer", BlastPlanner.VIBRATION, x.reason(0, 600));
        plan("planned beside it", x, 45, 600, 660, 630);
    }

    private static void planAtTheEndsOfTheDay() {
        plan("both ends", Texts.loaded("day 0 1439;step 240;close 60 60;space 240;" + ROAD + blasts(1)), 60, 0);
        BlastPlanner x = Texts.loaded("day 239 1439;step 240;close 60 60;space 240;" + ROAD + blasts(2));
        plan("the last minute of the day", x, 120 + 61, 239, 1439);
        Check.same("applied", 2, x.applyPlan());
        Check.same("at the last minute", 1439, x.timeOf(1));
        Check.same("closed", 181, x.totalClosed());
        plan("minute 0 only", Texts.loaded("day 0 0;" + ROAD + blasts(1)), 5, 0);
        plan("minute 1439 only", Texts.loaded("day 1439 1439;" + ROAD + blasts(1)), 11, 1439);
    }

    private static void planLengthCountsAllRoads() {
        StringBuilder roads = new StringBuilder();
        for (int i = 0; i < 6; i++) {
            roads.append("road ").append((char) ('a' + i)).append(" 0 0 0 0;");
        }
        BlastPlanner x = Texts.loaded("close 60 60;" + roads + blasts(4));
        plan("6 roads, 4 blasts", x, 6 * (120 + 60 + 60 + 60), 480, 540, 600, 660);
        x.applyPlan();
        Check.same("is what is closed then", 6 * 300, x.totalClosed());
        BlastPlanner y = Texts.loaded(roads + "blast z 500 500 1 1 at 0;" + blasts(1));
        y.schedule(0, 480);
        plan("a blast that closes no road", y, 90, 480, 540);
    }

    private static void applyPlanToOpenOnes() {
        for (int open = 1; open <= 4; open++) {
            BlastPlanner x = Texts.loaded("day 480 960;" + ROAD + blasts(open));
            Check.same("open ones", open, x.applyPlan());
            Check.same("one action", 1, x.undoDepth());
            for (int b = 0; b < open; b++) {
                Check.same("time of " + b, 480 + 60 * b, x.timeOf(b));
                Check.same("not fired", false, x.isFired(b));
            }
            Check.same("none is open then", 0, x.applyPlan());
            Check.same("undone", 1, x.undo());
            Check.same("undone", 0, x.undo());
            Check.same("open again", -1, x.timeOf(open - 1));
        }
        BlastPlanner x = Texts.loaded("day 480 960;" + ROAD + blasts(3));
        x.schedule(0, 500);
        x.fire(0);
        x.schedule(2, 701);
        Check.same("one is open", 1, x.applyPlan());
        Check.same("the fired one stays", 500, x.timeOf(0));
        Check.same("fired", true, x.isFired(0));
        Check.same("the scheduled one stays", 701, x.timeOf(2));
        Check.same("the open one is scheduled", 480, x.timeOf(1));
    }

    private static void planAfterLoad() {
        BlastPlanner x = Texts.loaded("day 600 720;" + ROAD + blasts(2));
        plan("at first", x, 30, 600, 660);
        Texts.load(x, "day 700 720;step 20;space 20;" + ROAD + blasts(2));
        plan("after load", x, 30, 700, 720);
        Texts.type(x, "day 1 1;?");
        Check.badArgument("a wrong text", x::load);
        plan("after a wrong text", x, 30, 700, 720);
        Texts.load(x, "");
        plan("after the empty text", x, 0);
    }

    /** An object may be used for 512 calls: here half of them try every start minute for every open blast, in vain. */
    private static void dearPlansInAllCalls() {
        StringBuilder text = new StringBuilder("day 0 1430;step 130;close 60 60;space 0;" + ROAD);
        for (int i = 0; i < 8; i++) {
            String last = i < 7 ? "0 to 1;" : "0 to 1440;";
            text.append("near ").append((char) ('a' + i)).append(" 500 500 99999 1 to 2 1 to 2 1 to 2 ").append(last);
        }
        BlastPlanner x = Texts.loaded(text + blasts(3) + "blast z 500 500 1 1 at 0;");
        Check.same("12 start minutes", 12, x.startCount());
        for (int i = 0; i < 230; i++) {
            Check.same("retimed", 1, x.retime(0, i));
            Check.same("planned again", -1, x.planLength());
        }
        Check.same("all recorded, 16 kept", 16, x.undoDepth());
    }

    // ---- undo

    private static void nothingToUndo() {
        BlastPlanner x = new BlastPlanner();
        Check.same("a new object", -1, x.undo());
        Check.same("its depth", 0, x.undoDepth());
        Texts.load(x, blasts(1));
        Check.same("load is no action", -1, x.undo());
        x.schedule(0, 500);
        Check.same("the only action", 0, x.undo());
        for (int i = 0; i < 3; i++) {
            Check.same("no more", -1, x.undo());
            Check.same("depth 0", 0, x.undoDepth());
            Check.same("nothing changes", -1, x.timeOf(0));
        }
        x.schedule(0, 501);
        Check.same("one again", 1, x.undoDepth());
    }

    /** The last 16 recorded actions can be undone, whatever was recorded before. */
    private static void sixteenActionsAndOneMore() {
        for (int actions : new int[] {15, 16, 17, 18, 31, 32, 33, 100}) {
            BlastPlanner x = Texts.loaded("day 0 1439;" + blasts(1));
            for (int i = 1; i <= actions; i++) {
                x.schedule(0, i);
            }
            int most = Math.min(actions, 16);
            Check.same(actions + " actions", most, x.undoDepth());
            for (int left = most - 1; left >= 0; left--) {
                Check.same(actions + " actions, undo to " + left, left, x.undo());
                int time = actions - most + left;
                Check.same(actions + " actions, time", time == 0 ? -1 : time, x.timeOf(0));
                Check.same(actions + " actions, depth", left, x.undoDepth());
            }
            Check.same(actions + " actions, no more", -1, x.undo());
            Check.same(actions + " actions, the oldest stay", actions <= 16 ? -1 : actions - 16, x.timeOf(0));
        }
    }

    private static void undoAndRecordAgain() {
        BlastPlanner x = Texts.loaded("day 0 1439;" + blasts(1));
        for (int i = 1; i <= 20; i++) {
            x.schedule(0, i);
        }
        for (int i = 0; i < 10; i++) {
            x.undo();
        }
        Check.same("6 left", 6, x.undoDepth());
        Check.same("at 10", 10, x.timeOf(0));
        for (int i = 1; i <= 12; i++) {
            x.schedule(0, 100 + i);
            Check.same("depth", Math.min(6 + i, 16), x.undoDepth());
        }
        int[] times = {111, 110, 109, 108, 107, 106, 105, 104, 103, 102, 101, 10, 9, 8, 7, 6};
        for (int k = 0; k < 16; k++) {
            Check.same("undo " + k, 15 - k, x.undo());
            Check.same("time " + k, times[k], x.timeOf(0));
        }
        Check.same("no more", -1, x.undo());
    }

    private static void actionsThatChangeNothing() {
        BlastPlanner x = Texts.loaded("day 480 960;" + blasts(1));
        x.schedule(0, 500);
        Check.same("the same time", 500, x.schedule(0, 500));
        Check.same("is recorded", 2, x.undoDepth());
        x.retime(0, 0);
        Check.same("the same delays", 3, x.undoDepth());
        Check.same("nothing to plan", 0, x.applyPlan());
        Check.same("is recorded, too", 4, x.undoDepth());
        for (int left = 3; left >= 1; left--) {
            Check.same("undone", left, x.undo());
            Check.same("its time stays", 500, x.timeOf(0));
        }
        x.undo();
        Check.same("then it is open", -1, x.timeOf(0));
        // what is refused and what only asks is not recorded
        Check.badState("cancel", () -> x.cancel(0));
        x.planLength();
        x.format(0);
        x.append(0, 0, 0, 0, 0);
        x.truncate(0);
        x.vibrationIfGap(0, loadedNeighbour(x), 3);
        Check.same("nothing is recorded", 0, x.undoDepth());
    }

    /** Loads a text with a neighbour and returns its index. */
    private static int loadedNeighbour(BlastPlanner x) {
        Texts.load(x, "near n 0 0 9;" + blasts(1));
        return 0;
    }

    /** Undoing an action restores all blasts as they were before: as in a twin that never made the action. */
    private static void undoOfEachAction() {
        for (int left = 4; left >= 0; left--) {
            BlastPlanner x = afterActions(5);
            for (int i = 4; i >= left; i--) {
                Check.same("undone", i, x.undo());
            }
            String due = Snapshot.toTheEnd(afterActions(left));
            Check.same("all is as before action " + left, due, Snapshot.toTheEnd(x));
            Check.same("action " + left + " changes something", false,
                    due.equals(Snapshot.toTheEnd(afterActions(left + 1))));
        }
    }

    private static BlastPlanner afterActions(int count) {
        BlastPlanner x = Texts.loaded("day 480 960;near n 0 0 2000;" + ROAD
                + "blast a 0 0 1 1 at 70 2 at 77;blast b 0 0 1 1 at 0;");
        if (count > 0) {
            x.retime(0, 8);
        }
        if (count > 1) {
            x.schedule(0, 600);
        }
        if (count > 2) {
            x.applyPlan();
        }
        if (count > 3) {
            x.cancel(1);
        }
        if (count > 4) {
            x.fire(0);
        }
        return x;
    }

    private static void undoOfTwelveDelays() {
        StringBuilder charges = new StringBuilder();
        for (int c = 0; c < 12; c++) {
            charges.append(' ').append(c + 1).append(" at ").append(9999 - 9 * c);
        }
        BlastPlanner x = Texts.loaded("near n 0 0 12000;" + blasts(5) + "blast z 0 0 1" + charges + ";");
        x.retime(5, 0);
        Check.same("retimed", 78, x.windowSize(5));
        Check.same("too strong", 1, x.tooStrongAt(5));
        x.undo();
        for (int c = 0; c < 12; c++) {
            Check.same("delay " + c, 9999 - 9 * c, x.delay(5, c));
            Check.same("size " + c, c + 1, x.chargeSize(5, c));
        }
        Check.same("window", 12, x.windowSize(5));
        Check.same("start", 9900, x.windowStart(5));
        Check.same("not too strong", 0, x.tooStrongAt(5));
    }

    /** Undoing does not change the input buffer, the error of the text or the formatted text. */
    private static void undoKeepsTheRest() {
        BlastPlanner x = Texts.loaded(blasts(2));
        x.schedule(0, 500);
        x.schedule(1, 600);
        x.format(1);
        Texts.type(x, "step 0;");
        Check.badArgument("a wrong text", x::load);
        Texts.type(x, "blast q 1 1 1 1 at 1;");
        for (int left = 1; left >= -1; left--) {
            Check.same("undo", left, x.undo());
            Check.same("the error's offset", 5, x.errorOffset());
            Check.same("the error's kind", BlastPlanner.BAD_NUMBER, x.errorKind());
            Check.same("the formatted text", "b 10:00 w1 r0", Texts.formatted(x));
            Check.same("the buffer's length", false, x.truncate(22));
        }
        Check.same("the buffer's text", 1, x.load());
        Check.same("the formatted text after load", "b 10:00 w1 r0", Texts.formatted(x));
    }

    private static void planAfterUndo() {
        BlastPlanner x = Texts.loaded("day 600 720;" + ROAD + blasts(1) + "blast b 500 500 1 1 at 0;");
        plan("at first", x, 15, 600, 660);
        x.schedule(1, 600);
        plan("scheduled", x, 15, 660, 600);
        x.undo();
        plan("undone", x, 15, 600, 660);
        x.applyPlan();
        plan("applied", x, 15, 600, 660);
        x.undo();
        Check.same("applied again", 2, x.applyPlan());
    }

    // ---- the formatted text

    private static void formatOfTimes() {
        int[] minutes = {0, 1, 9, 10, 59, 60, 61, 69, 70, 599, 600, 601, 609, 610, 659, 1199, 1200, 1379, 1380, 1439};
        String[] due = {"0:00", "0:01", "0:09", "0:10", "0:59", "1:00", "1:01", "1:09", "1:10", "9:59", "10:00", "10:01", "10:09",
            "10:10", "10:59", "19:59", "20:00", "22:59", "23:00", "23:59"};
        for (int i = 0; i < minutes.length; i++) {
            BlastPlanner x = Texts.loaded("day 0 1439;" + blasts(1));
            format("a - w1 r0", x, 0);
            x.schedule(0, minutes[i]);
            format("a " + due[i] + " w1 r0", x, 0);
            x.fire(0);
            format("a " + due[i] + " w1 r0 fired", x, 0);
        }
        BlastPlanner y = Texts.loaded("day 0 1439;" + blasts(1));
        y.schedule(0, 0);
        y.fire(0);
        format("a 0:00 w1 r0 fired", y, 0);
        y.undo();
        format("a 0:00 w1 r0", y, 0);
        y.undo();
        format("a - w1 r0", y, 0);
    }

    private static void formatOfNumbers() {
        String[] charges = {"1 at 0", "9 at 0", "10 at 0", "99 at 0", "100 at 0", "101 at 0", "999 at 0", "999 at 0 1 at 0",
            "999 at 0 10 at 0", "999 at 0".concat(" 999 at 0".repeat(9)) + " 10 at 0", "999 at 0".concat(" 999 at 0".repeat(9)) + " 9 at 0",
            "999 at 0".concat(" 999 at 0".repeat(11))};
        int[] due = {1, 9, 10, 99, 100, 101, 999, 1000, 1009, 10000, 9999, 11988};
        for (int i = 0; i < charges.length; i++) {
            format("q - w" + due[i] + " r0", Texts.loaded("blast q 0 0 1 " + charges[i] + ";"), 0);
        }
        StringBuilder roads = new StringBuilder();
        for (int n = 0; n <= 6; n++) {
            format("abcdef - w1 r" + n, Texts.loaded(roads + "blast abcdef 0 0 1 1 at 0;"), 0);
            roads.append("road ").append((char) ('a' + n)).append(" 0 0 0 0;");
        }
        for (String name : "a z aa zz az za aaaaaa zzzzzz azazaz abcdef at to day blast close".split(" ")) {
            format(name + " - w1 r0", Texts.loaded("blast " + name + " 0 0 1 1 at 0;"), 0);
        }
        BlastPlanner x = Texts.loaded("blast q 0 0 1 5 at 0 5 at 9;");
        x.retime(0, 7);
        format("q - w10 r0", x, 0);
    }

    private static void formatReplacesTheText() {
        BlastPlanner x = Texts.loaded(ROAD + "blast longer 0 0 500" + " 999 at 0".repeat(12) + ";blast s 900 900 1 1 at 0;");
        x.schedule(0, 900);
        x.fire(0);
        format("longer 15:00 w11988 r1 fired", x, 0);
        format("s - w1 r0", x, 1);
        Check.same("nothing of the longer text is left", -1, x.formattedByte(9));
        Check.noIndex("no blast", () -> x.format(2));
        Check.same("keeps the text", "s - w1 r0", Texts.formatted(x));
        x.schedule(1, 700);
        Check.same("as it was formatted", "s - w1 r0", Texts.formatted(x));
        Texts.load(x, "");
        Check.same("also after load", "s - w1 r0", Texts.formatted(x));
    }

    private static void format(String due, BlastPlanner x, int blast) {
        Check.same("length of " + due, due.length(), x.format(blast));
        Check.same("format", due, Texts.formatted(x));
        Check.same("behind " + due, -1, x.formattedByte(due.length()));
    }

    private static void formattedBytes() {
        BlastPlanner x = Texts.loaded("day 0 1439;blast zzzzzz 0 0 1 1 at 0;");
        for (int index : new int[] {Integer.MIN_VALUE, -1, 0, 1, 39, 40, Integer.MAX_VALUE}) {
            Check.same("nothing is formatted, byte " + index, -1, x.formattedByte(index));
        }
        int length = x.format(0);
        int[] indexes = {Integer.MIN_VALUE, -1, 0, 5, 6, 7, length - 1, length, length + 1, 39, 40, 800, Integer.MAX_VALUE};
        int[] due = {-1, -1, 'z', 'z', ' ', '-', '0', -1, -1, -1, -1, -1, -1};
        for (int i = 0; i < indexes.length; i++) {
            Check.same("byte " + indexes[i], due[i], x.formattedByte(indexes[i]));
        }
    }
}
