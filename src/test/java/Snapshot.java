/** All that can be asked of a planner, as one text, to compare two planners that must be alike. */
final class Snapshot {
    private static final int[] MINUTES = {0, 479, 480, 600, 660, 720, 960, 961, 1439};
    private final BlastPlanner planner;
    private final StringBuilder text = new StringBuilder();

    private Snapshot(BlastPlanner planner) {
        this.planner = planner;
    }

    /** Asks for everything, which changes nothing. */
    static String of(BlastPlanner planner) {
        Snapshot it = new Snapshot(planner);
        it.description();
        it.blasts();
        it.roads();
        it.sirens();
        it.plan();
        it.add("error", planner.errorOffset(), planner.errorKind());
        it.text.append("formatted ").append(Texts.formatted(planner));
        return it.text.toString();
    }

    /** Asks for everything, then undoes all that can be undone, then loads what the buffer holds: it ends the planner's use. */
    static String toTheEnd(BlastPlanner planner) {
        Snapshot it = new Snapshot(planner);
        it.text.append(of(planner));
        it.add("depth", planner.undoDepth());
        for (int left = planner.undo(); left != BlastPlanner.NONE; left = planner.undo()) {
            it.add("undone", left);
            it.changeable();
        }
        it.changeable();
        it.text.append("\nload ").append(Check.outcome(planner::load));
        it.add("error", planner.errorOffset(), planner.errorKind());
        it.add("loaded", planner.blastCount(), planner.neighbourCount(), planner.roadCount(), planner.startCount());
        return it.text.toString();
    }

    private void add(String what, int... answers) {
        text.append('\n').append(what);
        for (int answer : answers) {
            text.append(' ').append(answer);
        }
    }

    private void description() {
        add("counts", planner.blastCount(), planner.neighbourCount(), planner.roadCount(), planner.startCount());
        for (int n = 0; n < planner.neighbourCount(); n++) {
            add("neighbour", planner.quietMinutes(n), planner.isQuiet(n, 600) ? 1 : 0);
        }
    }

    private void blasts() {
        for (int b = 0; b < planner.blastCount(); b++) {
            add("charges", planner.chargeCount(b), planner.totalSize(b), planner.delaySpan(b));
            for (int c = 0; c < planner.chargeCount(b); c++) {
                add("charge", planner.chargeSize(b, c), planner.delay(b, c));
            }
            add("window", planner.windowSize(b), planner.windowStart(b), planner.mostShaken(b), planner.tooStrongAt(b));
            add("around", planner.closedBy(b), planner.dustHours(b));
            for (int n = 0; n < planner.neighbourCount(); n++) {
                add("shakes", planner.vibration(b, n), planner.neededGap(b, n));
            }
            for (int r = 0; r < planner.roadCount(); r++) {
                add("radius", planner.neededRadius(b, r));
            }
            times(b);
        }
        add("next", planner.nextBlast(0));
    }

    private void times(int b) {
        add("time", planner.timeOf(b), planner.isFired(b) ? 1 : 0);
        add("starts", planner.earliest(b, 0), planner.latest(b, 1439), planner.longestAllowed(b), planner.allowedCount(b));
        for (int minute : MINUTES) {
            add("reason", planner.reason(b, minute));
        }
    }

    private void roads() {
        for (int r = 0; r < planner.roadCount(); r++) {
            add("road", planner.closedMinutes(r), planner.closures(r));
            for (int k = 0; k < planner.closures(r); k++) {
                add("run", planner.closureStart(r, k), planner.closureLength(r, k));
            }
        }
        add("closed", planner.totalClosed(), planner.busiestHour());
    }

    private void sirens() {
        int count = planner.sirenCount();
        for (int k = 0; k < count; k++) {
            add("siren", planner.sirenMinute(k), planner.sirenKind(k), planner.sirenBlast(k));
        }
    }

    private void plan() {
        text.append("\nplan ").append(Check.outcome(planner::planLength));
        for (int b = 0; b < planner.blastCount(); b++) {
            int blast = b;
            text.append(' ').append(Check.outcome(() -> planner.planTime(blast)));
        }
        text.append('\n');
    }

    /** What an action can change and undo brings back. */
    private void changeable() {
        for (int b = 0; b < planner.blastCount(); b++) {
            add("blast", planner.timeOf(b), planner.isFired(b) ? 1 : 0, planner.delaySpan(b), planner.windowSize(b));
        }
    }
}
