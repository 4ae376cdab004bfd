/**
 * Each call that the document refuses in some state: what it throws, and that nothing has changed afterwards.
 * A planner that made the refused call must be like its twin that did not, in every answer, in all that can be
 * undone and in what the buffer holds.
 */
public final class RefusedTest {
    interface Made {
        BlastPlanner planner();
    }

    interface Call {
        long answer(BlastPlanner x);
    }

    private static final Class<IndexOutOfBoundsException> INDEX = IndexOutOfBoundsException.class;
    private static final Class<IllegalArgumentException> ARGUMENT = IllegalArgumentException.class;
    private static final Class<IllegalStateException> STATE = IllegalStateException.class;
    private static final int MIN = Integer.MIN_VALUE;
    private static final int MAX = Integer.MAX_VALUE;

    public static void main(String[] args) {
        blastsThatAreNone();
        neighboursThatAreNone();
        roadsThatAreNone();
        chargesThatAreNone();
        argumentsOutOfRange();
        minutesOutOfRange();
        sirensThatAreNone();
        firedBlasts();
        openBlasts();
        minutesNotAllowed();
        firedOutOfOrder();
        plansRefused();
        indexBeforeAllElse();
        argumentBeforeState();
        textsRefused();
        refusedWithoutException();
        emptyPlanner();
        Check.finish("RefusedTest");
    }

    /** a is fired, b and c are scheduled, d is open; an error and a formatted text are kept; the buffer holds a text. */
    private static BlastPlanner rich() {
        BlastPlanner x = Texts.loaded("day 600 900;step 30;close 20 7;space 10;wind 12 2 3;"
                + "near n 30 0 9000 660 to 670;near m 100 0 99999;road r 0 0 10 0;road s 90 9 90 90;"
                + "blast a 0 0 10 5 at 0 6 at 3;blast b 5 5 10 7 at 9;blast c 5 5 10 7 at 1 8 at 40;blast d 90 0 20 1 at 0;");
        x.schedule(1, 630);
        x.schedule(0, 600);
        x.fire(0);
        x.schedule(2, 700);
        x.retime(2, 5);
        x.format(0);
        Texts.type(x, "blast ? ");
        Check.badArgument("the rich planner keeps an error", x::load);
        Texts.type(x, "day 0 9;step 1;road q 1 1 1 1;blast z 1 1 1 1 at 1;");
        return x;
    }

    private static void refused(String what, Class<? extends RuntimeException> due, Made made, Call call) {
        BlastPlanner x = made.planner();
        Check.refused(what, due, () -> call.answer(x));
        Check.same(what + ": nothing has changed", Snapshot.toTheEnd(made.planner()), Snapshot.toTheEnd(x));
    }

    private static void refused(String what, Class<? extends RuntimeException> due, Call call) {
        refused(what, due, RefusedTest::rich, call);
    }

    private static void blastsThatAreNone() {
        for (int b : new int[] {MIN, -1, 4, 5, 6, MAX}) {
            String of = " of blast " + b;
            refused("chargeCount" + of, INDEX, x -> x.chargeCount(b));
            refused("chargeSize" + of, INDEX, x -> x.chargeSize(b, 0));
            refused("delay" + of, INDEX, x -> x.delay(b, 0));
            refused("totalSize" + of, INDEX, x -> x.totalSize(b));
            refused("delaySpan" + of, INDEX, x -> x.delaySpan(b));
            refused("windowSize" + of, INDEX, x -> x.windowSize(b));
            refused("windowStart" + of, INDEX, x -> x.windowStart(b));
            refused("vibration" + of, INDEX, x -> x.vibration(b, 0));
            refused("mostShaken" + of, INDEX, x -> x.mostShaken(b));
            refused("tooStrongAt" + of, INDEX, x -> x.tooStrongAt(b));
            refused("neededGap" + of, INDEX, x -> x.neededGap(b, 0));
            refused("vibrationIfGap" + of, INDEX, x -> x.vibrationIfGap(b, 0, 0));
            refused("closes" + of, INDEX, x -> x.closes(b, 0) ? 1 : 0);
            refused("closedBy" + of, INDEX, x -> x.closedBy(b));
            refused("dustAt" + of, INDEX, x -> x.dustAt(b, 12));
            refused("neededRadius" + of, INDEX, x -> x.neededRadius(b, 0));
            refused("dustHours" + of, INDEX, x -> x.dustHours(b));
            timesOfNoBlast(b, of);
        }
    }

    private static void timesOfNoBlast(int b, String of) {
        refused("timeOf" + of, INDEX, x -> x.timeOf(b));
        refused("isFired" + of, INDEX, x -> x.isFired(b) ? 1 : 0);
        refused("reason" + of, INDEX, x -> x.reason(b, 600));
        refused("earliest" + of, INDEX, x -> x.earliest(b, 600));
        refused("latest" + of, INDEX, x -> x.latest(b, 600));
        refused("reasonCount" + of, INDEX, x -> x.reasonCount(b, 0));
        refused("longestAllowed" + of, INDEX, x -> x.longestAllowed(b));
        refused("allowedCount" + of, INDEX, x -> x.allowedCount(b));
        refused("schedule" + of, INDEX, x -> x.schedule(b, 800));
        refused("cancel" + of, INDEX, x -> x.cancel(b));
        refused("fire" + of, INDEX, x -> x.fire(b));
        refused("retime" + of, INDEX, x -> x.retime(b, 1));
        refused("planTime" + of, INDEX, x -> x.planTime(b));
        refused("format" + of, INDEX, x -> x.format(b));
    }

    private static void neighboursThatAreNone() {
        for (int n : new int[] {MIN, -1, 2, 7, 8, MAX}) {
            String at = " at neighbour " + n;
            refused("vibration" + at, INDEX, x -> x.vibration(0, n));
            refused("neededGap" + at, INDEX, x -> x.neededGap(0, n));
            refused("vibrationIfGap" + at, INDEX, x -> x.vibrationIfGap(0, n, 0));
            refused("isQuiet" + at, INDEX, x -> x.isQuiet(n, 600) ? 1 : 0);
            refused("quietMinutes" + at, INDEX, x -> x.quietMinutes(n));
        }
    }

    private static void roadsThatAreNone() {
        for (int r : new int[] {MIN, -1, 2, 5, 6, MAX}) {
            String of = " of road " + r;
            refused("closes" + of, INDEX, x -> x.closes(0, r) ? 1 : 0);
            refused("neededRadius" + of, INDEX, x -> x.neededRadius(0, r));
            refused("closedMinutes" + of, INDEX, x -> x.closedMinutes(r));
            refused("isClosed" + of, INDEX, x -> x.isClosed(r, 600) ? 1 : 0);
            refused("closures" + of, INDEX, x -> x.closures(r));
            refused("closureStart" + of, INDEX, x -> x.closureStart(r, 0));
            refused("closureLength" + of, INDEX, x -> x.closureLength(r, 0));
            refused("openMinutes" + of, INDEX, x -> x.openMinutes(r, 0, 1439));
            refused("sharedMinutes" + of, INDEX, x -> x.sharedMinutes(r, 0));
            refused("sharedMinutes with another one" + of, INDEX, x -> x.sharedMinutes(0, r));
            refused("sharedMinutes with itself" + of, INDEX, x -> x.sharedMinutes(r, r));
        }
    }

    /** A charge must exist in the blast: a and c have two, b and d have one. */
    private static void chargesThatAreNone() {
        int[] charges = {2, 1, 2, 1};
        for (int b = 0; b < charges.length; b++) {
            int blast = b;
            for (int c : new int[] {MIN, -1, charges[b], 11, 12, MAX}) {
                refused("chargeSize " + b + " " + c, INDEX, x -> x.chargeSize(blast, c));
                refused("delay " + b + " " + c, INDEX, x -> x.delay(blast, c));
            }
            int last = charges[b] - 1;
            BlastPlanner x = rich();
            Check.same("the last charge has a size", true, x.chargeSize(blast, last) > 0);
            Check.same("the last charge has a delay", true, x.delay(blast, last) >= 0);
        }
    }

    private static void argumentsOutOfRange() {
        for (int gap : new int[] {MIN, -1, 801, MAX}) {
            refused("vibrationIfGap with gap " + gap, ARGUMENT, x -> x.vibrationIfGap(0, 0, gap));
            refused("retime with gap " + gap, ARGUMENT, x -> x.retime(3, gap));
        }
        for (int hour : new int[] {MIN, -1, 24, MAX}) {
            refused("dustAt hour " + hour, ARGUMENT, x -> x.dustAt(0, hour));
        }
        for (int reason : new int[] {MIN, -1, 6, MAX}) {
            refused("reasonCount of reason " + reason, ARGUMENT, x -> x.reasonCount(0, reason));
        }
    }

    private static void minutesOutOfRange() {
        for (int minute : new int[] {MIN, -1, 1440, MAX}) {
            refused("reason at " + minute, ARGUMENT, x -> x.reason(0, minute));
            refused("earliest from " + minute, ARGUMENT, x -> x.earliest(0, minute));
            refused("latest to " + minute, ARGUMENT, x -> x.latest(0, minute));
            refused("schedule at " + minute, ARGUMENT, x -> x.schedule(3, minute));
            refused("openMinutes from " + minute, ARGUMENT, x -> x.openMinutes(0, minute, 1439));
            refused("openMinutes to " + minute, ARGUMENT, x -> x.openMinutes(0, 0, minute));
            refused("openMinutes from and to " + minute, ARGUMENT, x -> x.openMinutes(0, minute, minute));
        }
        refused("openMinutes to the minute before", ARGUMENT, x -> x.openMinutes(0, 600, 599));
        refused("openMinutes from the end to the beginning", ARGUMENT, x -> x.openMinutes(0, 1439, 0));
    }

    private static void sirensThatAreNone() {
        for (int k : new int[] {MIN, -1, 9, 10, 18, MAX}) {
            refused("sirenMinute " + k, ARGUMENT, x -> x.sirenMinute(k));
            refused("sirenKind " + k, ARGUMENT, x -> x.sirenKind(k));
            refused("sirenBlast " + k, ARGUMENT, x -> x.sirenBlast(k));
        }
        Check.same("there are nine", 9, rich().sirenCount());
        Check.same("the last of them", 707, rich().sirenMinute(8));
    }

    private static void firedBlasts() {
        refused("schedule a fired one", STATE, x -> x.schedule(0, 840));
        refused("schedule a fired one at its own time", STATE, x -> x.schedule(0, 600));
        refused("cancel a fired one", STATE, x -> x.cancel(0));
        refused("fire a fired one", STATE, x -> x.fire(0));
        refused("retime a fired one", STATE, x -> x.retime(0, 8));
    }

    private static void openBlasts() {
        refused("cancel an open one", STATE, x -> x.cancel(3));
        refused("fire an open one", STATE, x -> x.fire(3));
    }

    private static void minutesNotAllowed() {
        notAllowed("before the first working minute", 3, 599, BlastPlanner.OUT_OF_HOURS);
        notAllowed("behind the last working minute", 3, 901, BlastPlanner.OUT_OF_HOURS);
        notAllowed("the first minute of the day", 3, 0, BlastPlanner.OUT_OF_HOURS);
        notAllowed("the last minute of the day", 3, 1439, BlastPlanner.OUT_OF_HOURS);
        notAllowed("the first quiet minute", 1, 660, BlastPlanner.QUIET);
        notAllowed("the last quiet minute", 1, 669, BlastPlanner.QUIET);
        notAllowed("the first minute of dust", 1, 720, BlastPlanner.DUST);
        notAllowed("the last minute of dust", 1, 779, BlastPlanner.DUST);
        notAllowed("crowded by a fired one", 3, 609, BlastPlanner.CROWDED);
        notAllowed("crowded by a scheduled one before", 3, 639, BlastPlanner.CROWDED);
        notAllowed("crowded by a scheduled one behind", 3, 691, BlastPlanner.CROWDED);
        refused("too strong", STATE, RefusedTest::tooStrong, x -> x.schedule(0, 600));
        refused("too strong, though it has a time", STATE, RefusedTest::tooStrong, x -> x.schedule(1, 700));
    }

    private static void notAllowed(String what, int blast, int minute, int reason) {
        refused(what, STATE, x -> x.schedule(blast, minute));
        Check.same(what + ": reason", reason, rich().reason(blast, minute));
    }

    private static BlastPlanner tooStrong() {
        BlastPlanner x = Texts.loaded("near n 0 0 1999;blast a 0 0 1 2 at 0;blast b 0 0 1 1 at 0 1 at 8;");
        x.schedule(1, 600);
        x.retime(1, 7);
        return x;
    }

    /** Blasts are fired in the order of nextBlast: by time, of several the lowest. */
    private static void firedOutOfOrder() {
        refused("fire c before b", STATE, x -> x.fire(2));
        refused("fire the higher one of the same time", STATE, RefusedTest::sameTimes, x -> x.fire(1));
        refused("fire the lower one of a later time", STATE, RefusedTest::sameTimes, x -> x.fire(2));
    }

    private static BlastPlanner sameTimes() {
        BlastPlanner x = Texts.loaded("space 0;blast a 0 0 1 1 at 0;blast b 0 0 1 1 at 0;blast c 0 0 1 1 at 0;");
        x.schedule(0, 700);
        x.schedule(1, 700);
        x.schedule(2, 701);
        return x;
    }

    private static void plansRefused() {
        Made fiveOpen = () -> Texts.loaded("space 0;road r 0 0 0 0;" + blasts(5));
        Made sixOpen = () -> Texts.loaded("space 0;road r 0 0 0 0;" + blasts(6));
        Made thirteen = () -> Texts.loaded("day 0 12;step 1;road r 0 0 0 0;" + blasts(1));
        Made thirteenAndNoneOpen = () -> {
            BlastPlanner x = thirteen.planner();
            x.schedule(0, 5);
            return x;
        };
        for (Made made : new Made[] {fiveOpen, sixOpen, thirteen, thirteenAndNoneOpen}) {
            refused("planLength", STATE, made, x -> x.planLength());
            refused("planTime", STATE, made, x -> x.planTime(0));
            refused("applyPlan", STATE, made, x -> x.applyPlan());
        }
        Made noPlan = () -> Texts.loaded("day 0 0;road r 0 0 0 0;" + blasts(2));
        refused("applyPlan without a plan", STATE, noPlan, x -> x.applyPlan());
        Check.same("planLength without a plan", -1, noPlan.planner().planLength());
        Made fiveWithOneScheduled = () -> {
            BlastPlanner x = fiveOpen.planner();
            x.schedule(4, 600);
            x.schedule(4, 601);
            x.undo();
            x.undo();
            return x;
        };
        refused("undo can make too many open", STATE, fiveWithOneScheduled, x -> x.applyPlan());
    }

    private static String blasts(int count) {
        StringBuilder text = new StringBuilder();
        for (int i = 0; i < count; i++) {
            text.append("blast ").append((char) ('a' + i)).append(" 0 0 1 1 at 0;");
        }
        return text.toString();
    }

    /** The exception that is listed first is thrown. */
    private static void indexBeforeAllElse() {
        refused("vibrationIfGap, blast and gap", INDEX, x -> x.vibrationIfGap(4, 0, 801));
        refused("vibrationIfGap, neighbour and gap", INDEX, x -> x.vibrationIfGap(0, 2, -1));
        refused("dustAt", INDEX, x -> x.dustAt(4, 24));
        refused("reason", INDEX, x -> x.reason(4, 1440));
        refused("earliest", INDEX, x -> x.earliest(-1, -1));
        refused("latest", INDEX, x -> x.latest(4, 1440));
        refused("reasonCount", INDEX, x -> x.reasonCount(-1, 6));
        refused("schedule", INDEX, x -> x.schedule(4, 1440));
        refused("retime", INDEX, x -> x.retime(-1, 801));
        refused("openMinutes", INDEX, x -> x.openMinutes(2, 5, 4));
        Made fiveOpen = () -> Texts.loaded(blasts(5));
        refused("planTime, 5 open", INDEX, fiveOpen, x -> x.planTime(5));
        Made thirteen = () -> Texts.loaded("day 0 12;step 1;" + blasts(1));
        refused("planTime, 13 start minutes", INDEX, thirteen, x -> x.planTime(-1));
    }

    private static void argumentBeforeState() {
        for (int minute : new int[] {-1, 1440}) {
            refused("schedule a fired one at " + minute, ARGUMENT, x -> x.schedule(0, minute));
            refused("schedule one that is too strong at " + minute, ARGUMENT, RefusedTest::tooStrong,
                    x -> x.schedule(0, minute));
        }
        for (int gap : new int[] {-1, 801}) {
            refused("retime a fired one with gap " + gap, ARGUMENT, x -> x.retime(0, gap));
        }
    }

    /** A load that throws empties the buffer and sets the error; all else stays. */
    private static void textsRefused() {
        textRefused("day 1 2;oops", 8, BlastPlanner.SYNTAX);
        textRefused("step 1;close 1 1;space 1;wind 12 1 1;day 9 8;", 43, BlastPlanner.BAD_NUMBER);
        textRefused("blast a 1 1 1 9 at 9;near n 9 9 9 9 to 99;near n", 47, BlastPlanner.BAD_NAME);
        textRefused("road a 1 1 1 1;road b 1 1 1 1;road c 1 1 1 1;road d 1 1 1 1;road e 1 1 1 1;road f 1 1 1 1;road",
                90, BlastPlanner.TOO_MANY);
        textRefused("blast a 1 1 1 9 at 9", 20, BlastPlanner.SYNTAX);
    }

    private static void textRefused(String text, int offset, int kind) {
        BlastPlanner x = rich();
        Texts.type(x, text);
        Check.badArgument(text, x::load);
        Check.same(text + ": offset", offset, x.errorOffset());
        Check.same(text + ": kind", kind, x.errorKind());
        Check.same(text + ": the buffer is empty", false, x.truncate(1));
        BlastPlanner twin = rich();
        twin.truncate(0);
        String error = "\nerror " + twin.errorOffset() + " " + twin.errorKind();
        String due = Snapshot.toTheEnd(twin);
        Check.same("the twin has its error", true, due.contains(error));
        due = due.replace(error, "\nerror " + offset + " " + kind);
        Check.same(text + ": all else stays", due, Snapshot.toTheEnd(x));
    }

    private static void refusedWithoutException() {
        unchanged("truncate(-1)", 0, x -> x.truncate(-1) ? 1 : 0);
        unchanged("truncate to one byte more", 0, x -> x.truncate(52) ? 1 : 0);
        unchanged("truncate(MAX)", 0, x -> x.truncate(MAX) ? 1 : 0);
        unchanged("truncate(MIN)", 0, x -> x.truncate(MIN) ? 1 : 0);
        unchanged("truncate to its length", 1, x -> x.truncate(51) ? 1 : 0);
        Made full = () -> {
            BlastPlanner x = rich();
            Texts.type(x, " ".repeat(778) + "blast z 1 1 1 1 at 1;x");
            return x;
        };
        BlastPlanner x = full.planner();
        Check.same("append to a full buffer", -1, x.append(0, 0, 0, 0, 0));
        Check.same("append to a full buffer: nothing has changed", Snapshot.toTheEnd(full.planner()), Snapshot.toTheEnd(x));
        Made nothingToUndo = () -> {
            BlastPlanner y = rich();
            for (int i = 0; i < 5; i++) {
                y.undo();
            }
            return y;
        };
        BlastPlanner y = nothingToUndo.planner();
        Check.same("nothing to undo", -1, y.undo());
        Check.same("nothing to undo: nothing has changed", Snapshot.toTheEnd(nothingToUndo.planner()), Snapshot.toTheEnd(y));
    }

    private static void unchanged(String what, long due, Call call) {
        BlastPlanner x = rich();
        Check.same(what, due, call.answer(x));
        Check.same(what + ": nothing has changed", Snapshot.toTheEnd(rich()), Snapshot.toTheEnd(x));
    }

    /** Index 0 is no existing one where there is nothing. */
    private static void emptyPlanner() {
        Made empty = BlastPlanner::new;
        Made without = () -> Texts.loaded("blast a 0 0 1 1 at 0;");
        refused("new: timeOf(0)", INDEX, empty, x -> x.timeOf(0));
        refused("new: schedule(0, 600)", INDEX, empty, x -> x.schedule(0, 600));
        refused("new: quietMinutes(0)", INDEX, empty, x -> x.quietMinutes(0));
        refused("new: closedMinutes(0)", INDEX, empty, x -> x.closedMinutes(0));
        refused("new: chargeSize(0, 0)", INDEX, empty, x -> x.chargeSize(0, 0));
        refused("new: planTime(0)", INDEX, empty, x -> x.planTime(0));
        refused("new: format(0)", INDEX, empty, x -> x.format(0));
        refused("new: sirenMinute(0)", ARGUMENT, empty, x -> x.sirenMinute(0));
        refused("no neighbours: vibration(0, 0)", INDEX, without, x -> x.vibration(0, 0));
        refused("no neighbours: neededGap(0, 0)", INDEX, without, x -> x.neededGap(0, 0));
        refused("no roads: closes(0, 0)", INDEX, without, x -> x.closes(0, 0) ? 1 : 0);
        refused("no roads: neededRadius(0, 0)", INDEX, without, x -> x.neededRadius(0, 0));
        refused("no roads: sharedMinutes(0, 0)", INDEX, without, x -> x.sharedMinutes(0, 0));
    }
}
