import java.util.Arrays;

/** Each sentence on closed minutes and sirens that names a boundary: promises 43 to 55 and their words. */
public final class EdgeClosedTest {
    public static void main(String[] args) {
        closingTimes();
        closingTimesAtTheEndsOfTheDay();
        openScheduledAndFired();
        roadsThatAreNotClosed();
        runsThatTouch();
        runsAtTheEndsOfTheDay();
        sixRuns();
        positionsOfRuns();
        questionsInAnyOrder();
        anyMinute();
        openMinutesOfTheDay();
        openMinutesOfEachSpan();
        sharedByTheSameRoad();
        sharedByRunsThatTouch();
        busiestOfTheDay();
        busiestOfSeveral();
        busiestOfEachRoad();
        sirensBeforeTheDay();
        sirensBehindTheDay();
        sirensInTheSameMinute();
        positionsOfSirens();
        Check.finish("EdgeClosedTest");
    }

    /** Blasts of which the k-th closes the road r where the k-th sign is R, s at S, both at B and none at N. */
    private static BlastPlanner site(String settings, String kinds) {
        StringBuilder text = new StringBuilder("day 0 1439;space 0;road r 0 0 0 0;road s 10 0 10 0;road t 999 999 999 999;");
        text.append(settings);
        for (int i = 0; i < kinds.length(); i++) {
            char kind = kinds.charAt(i);
            String place = kind == 'R' ? "0 0 1" : kind == 'S' ? "10 0 1" : kind == 'B' ? "5 0 5" : "500 500 1";
            text.append("blast ").append((char) ('a' + i)).append(' ').append(place).append(" 1 at 0;");
        }
        return Texts.loaded(text.toString());
    }

    private static BlastPlanner scheduled(String settings, String kinds, int... times) {
        BlastPlanner x = site(settings, kinds);
        for (int b = 0; b < times.length; b++) {
            x.schedule(b, times[b]);
        }
        return x;
    }

    /** The runs as first-last pairs, and everything else that follows from them. */
    private static void runs(String what, BlastPlanner x, int road, int... pairs) {
        int sum = 0;
        for (int i = 0; i < pairs.length; i += 2) {
            Check.same(what + ": start " + i / 2, pairs[i], x.closureStart(road, i / 2));
            Check.same(what + ": length " + i / 2, pairs[i + 1] - pairs[i] + 1, x.closureLength(road, i / 2));
            Check.same(what + ": the minute before " + i / 2, false, x.isClosed(road, pairs[i] - 1));
            Check.same(what + ": first of " + i / 2, true, x.isClosed(road, pairs[i]));
            Check.same(what + ": last of " + i / 2, true, x.isClosed(road, pairs[i + 1]));
            Check.same(what + ": the minute behind " + i / 2, false, x.isClosed(road, pairs[i + 1] + 1));
            sum += pairs[i + 1] - pairs[i] + 1;
        }
        Check.same(what + ": runs", pairs.length / 2, x.closures(road));
        Check.same(what + ": no more starts", -1, x.closureStart(road, pairs.length / 2));
        Check.same(what + ": no more lengths", -1, x.closureLength(road, pairs.length / 2));
        Check.same(what + ": closed", sum, x.closedMinutes(road));
        Check.same(what + ": open", 1440 - sum, x.openMinutes(road, 0, 1439));
        Check.same(what + ": shared with itself", sum, x.sharedMinutes(road, road));
    }

    // ---- closed minutes

    private static void closingTimes() {
        runs("10 before, 5 after", scheduled("", "R", 600), 0, 590, 604);
        runs("0 before", scheduled("close 0 5;", "R", 600), 0, 600, 604);
        runs("0 after", scheduled("close 10 0;", "R", 600), 0, 590, 599);
        runs("1 after", scheduled("close 0 1;", "R", 600), 0, 600, 600);
        runs("1 before", scheduled("close 1 0;", "R", 600), 0, 599, 599);
        runs("60 and 60", scheduled("close 60 60;", "R", 600), 0, 540, 659);
        runs("none at all", scheduled("close 0 0;", "R", 600), 0);
    }

    private static void closingTimesAtTheEndsOfTheDay() {
        runs("at 0", scheduled("close 60 60;", "R", 0), 0, 0, 59);
        runs("at 59", scheduled("close 60 60;", "R", 59), 0, 0, 118);
        runs("at 60", scheduled("close 60 60;", "R", 60), 0, 0, 119);
        runs("at 61", scheduled("close 60 60;", "R", 61), 0, 1, 120);
        runs("at 1379", scheduled("close 60 60;", "R", 1379), 0, 1319, 1438);
        runs("at 1380", scheduled("close 60 60;", "R", 1380), 0, 1320, 1439);
        runs("at 1381", scheduled("close 60 60;", "R", 1381), 0, 1321, 1439);
        runs("at 1439", scheduled("close 60 60;", "R", 1439), 0, 1379, 1439);
        runs("at 0, before only", scheduled("close 60 0;", "R", 0), 0);
        runs("at 0, after only", scheduled("close 0 1;", "R", 0), 0, 0, 0);
        runs("at 1, before only", scheduled("close 60 0;", "R", 1), 0, 0, 0);
        runs("at 1439, after only", scheduled("close 0 60;", "R", 1439), 0, 1439, 1439);
        runs("at 1439, before only", scheduled("close 1 0;", "R", 1439), 0, 1438, 1438);
    }

    private static void openScheduledAndFired() {
        BlastPlanner x = site("", "RR");
        runs("open", x, 0);
        x.schedule(0, 600);
        runs("scheduled", x, 0, 590, 604);
        x.fire(0);
        runs("fired", x, 0, 590, 604);
        x.schedule(1, 600);
        runs("two at once", x, 0, 590, 604);
        x.cancel(1);
        runs("one is open again", x, 0, 590, 604);
        x.undo();
        x.undo();
        x.undo();
        x.undo();
        runs("all undone", x, 0);
    }

    private static void roadsThatAreNotClosed() {
        BlastPlanner x = scheduled("", "RSBN", 100, 200, 300, 400);
        runs("r", x, 0, 90, 104, 290, 304);
        runs("s", x, 1, 190, 204, 290, 304);
        runs("t", x, 2);
        Check.same("all roads", 60, x.totalClosed());
        Check.same("no roads, nothing closed", 0, withoutRoads().totalClosed());
        Check.same("no roads, no busiest hour", -1, withoutRoads().busiestHour());
        BlastPlanner six = Texts.loaded("close 60 60;road a 0 0 0 0;road b 0 0 0 0;road c 0 0 0 0;road d 0 0 0 0;road e 0 0 0 0;"
                + "road f 0 0 0 0;blast a 0 0 1 1 at 0;");
        six.schedule(0, 600);
        Check.same("6 roads", 720, six.totalClosed());
        runs("the last of 6", six, 5, 540, 659);
    }

    private static BlastPlanner withoutRoads() {
        BlastPlanner x = Texts.loaded("blast a 0 0 500 1 at 0;");
        x.schedule(0, 600);
        return x;
    }

    private static void runsThatTouch() {
        runs("overlapping", scheduled("", "RR", 600, 614), 0, 590, 618);
        runs("touching", scheduled("", "RR", 600, 615), 0, 590, 619);
        runs("a minute between", scheduled("", "RR", 600, 616), 0, 590, 604, 606, 620);
        runs("the later one first", scheduled("", "RR", 616, 600), 0, 590, 604, 606, 620);
        runs("touching, the later one first", scheduled("", "RR", 615, 600), 0, 590, 619);
        runs("filled between", scheduled("", "RRR", 600, 616, 608), 0, 590, 620);
        runs("touching both", scheduled("", "RRR", 600, 630, 615), 0, 590, 634);
        runs("six in a row", scheduled("", "RRRRRR", 690, 600, 675, 615, 660, 630), 0, 590, 634, 650, 694);
        runs("another road between", scheduled("", "RSR", 600, 615, 630), 0, 590, 604, 620, 634);
    }

    private static void runsAtTheEndsOfTheDay() {
        BlastPlanner x = scheduled("", "RR", 0, 1439);
        runs("the day does not wrap", x, 0, 0, 4, 1429, 1439);
        Check.same("not before the day", false, x.isClosed(0, -1));
        Check.same("not behind the day", false, x.isClosed(0, 1440));
    }

    private static void sixRuns() {
        BlastPlanner x = scheduled("", "RRRRRR", 1400, 100, 1200, 300, 900, 500);
        runs("six runs in the order of time", x, 0, 90, 104, 290, 304, 490, 504, 890, 904, 1190, 1204, 1390, 1404);
        runs("six runs from both ends", scheduled("close 60 60;", "RRRRRR", 0, 1439, 240, 1200, 480, 960), 0,
                0, 59, 180, 299, 420, 539, 900, 1019, 1140, 1259, 1379, 1439);
    }

    private static void positionsOfRuns() {
        BlastPlanner x = scheduled("", "RR", 600, 700);
        for (int k : new int[] {Integer.MIN_VALUE, -1, 2, 3, 7, 8, 9, Integer.MAX_VALUE}) {
            Check.same("start of run " + k, -1, x.closureStart(0, k));
            Check.same("length of run " + k, -1, x.closureLength(0, k));
            Check.same("start of run " + k + " of t", -1, x.closureStart(2, k));
        }
        Check.same("run 0 of a road without runs", -1, x.closureStart(2, 0));
        Check.same("its length", -1, x.closureLength(2, 0));
    }

    /** No answer hangs on what was asked before, also of another road. */
    private static void questionsInAnyOrder() {
        BlastPlanner x = scheduled("", "RRS", 600, 700, 800);
        for (int i = 0; i < 2; i++) {
            Check.same("length of s", 15, x.closureLength(1, 0));
            Check.same("runs of r", 2, x.closures(0));
            Check.same("start of s", 790, x.closureStart(1, 0));
            Check.same("closed minutes of t", 0, x.closedMinutes(2));
            Check.same("length of r", 15, x.closureLength(0, 1));
            Check.same("open minutes of s", 1425, x.openMinutes(1, 0, 1439));
            Check.same("r at 600", true, x.isClosed(0, 600));
            Check.same("shared by r and s", 0, x.sharedMinutes(0, 1));
            Check.same("runs of s", 1, x.closures(1));
            Check.same("shared by r and r", 30, x.sharedMinutes(0, 0));
            Check.same("s at 600", false, x.isClosed(1, 600));
            Check.same("all", 45, x.totalClosed());
            Check.same("start of r", 690, x.closureStart(0, 1));
        }
    }

    private static void anyMinute() {
        BlastPlanner x = scheduled("close 60 60;", "RR", 0, 1439);
        int[] minutes = {Integer.MIN_VALUE, -60, -1, 0, 59, 60, 1378, 1379, 1439, 1440, 1499, Integer.MAX_VALUE};
        boolean[] due = {false, false, false, true, true, false, false, true, true, false, false, false};
        for (int i = 0; i < minutes.length; i++) {
            Check.same("closed at " + minutes[i], due[i], x.isClosed(0, minutes[i]));
            Check.same("t at " + minutes[i], false, x.isClosed(2, minutes[i]));
        }
    }

    private static void openMinutesOfTheDay() {
        BlastPlanner x = scheduled("", "RR", 0, 1439);
        Check.same("all day", 1424, x.openMinutes(0, 0, 1439));
        Check.same("the first minute", 0, x.openMinutes(0, 0, 0));
        Check.same("the last minute", 0, x.openMinutes(0, 1439, 1439));
        Check.same("all of t", 1440, x.openMinutes(2, 0, 1439));
        Check.same("the first minute of t", 1, x.openMinutes(2, 0, 0));
        Check.same("the last minute of t", 1, x.openMinutes(2, 1439, 1439));
    }

    private static void openMinutesOfEachSpan() {
        BlastPlanner x = scheduled("close 2 3;", "RR", 10, 20);
        for (int first = 0; first < 30; first++) {
            int due = 0;
            for (int last = first; last < 30; last++) {
                boolean closed = last >= 8 && last <= 12 || last >= 18 && last <= 22;
                due += closed ? 0 : 1;
                Check.same("open from " + first + " to " + last, due, x.openMinutes(0, first, last));
            }
        }
    }

    private static void sharedByTheSameRoad() {
        BlastPlanner x = scheduled("", "RSB", 600, 700, 800);
        Check.same("r with itself", 30, x.sharedMinutes(0, 0));
        Check.same("t with itself", 0, x.sharedMinutes(2, 2));
        Check.same("r and s", 15, x.sharedMinutes(0, 1));
        Check.same("s and r", 15, x.sharedMinutes(1, 0));
        Check.same("r and t", 0, x.sharedMinutes(0, 2));
    }

    private static void sharedByRunsThatTouch() {
        int[] times = {585, 586, 600, 614, 615};
        int[] due = {0, 1, 15, 1, 0};
        for (int i = 0; i < times.length; i++) {
            BlastPlanner x = scheduled("", "RS", 600, times[i]);
            Check.same("s at " + times[i], due[i], x.sharedMinutes(0, 1));
            Check.same("the other way", due[i], x.sharedMinutes(1, 0));
        }
        Check.same("one run over three", 3 + 20 + 3, scheduled("close 10 10;", "RRRSSS", 500, 520, 540, 483, 522, 557).sharedMinutes(0, 1));
        Check.same("the day does not wrap", 0, scheduled("", "RS", 0, 1439).sharedMinutes(0, 1));
        BlastPlanner x = scheduled("", "RRRS", 100, 300, 500, 507);
        Check.same("the last of three runs with a single one", 8, x.sharedMinutes(0, 1));
        Check.same("a single run with the last of three", 8, x.sharedMinutes(1, 0));
    }

    private static void busiestOfTheDay() {
        Check.same("nothing closed", -1, site("", "RS").busiestHour());
        Check.same("nothing closed by a blast", -1, scheduled("", "N", 600).busiestHour());
        Check.same("nothing closed without closing times", -1, scheduled("close 0 0;", "R", 600).busiestHour());
        Check.same("cut off by the day", -1, scheduled("close 60 0;", "R", 0).busiestHour());
        Check.same("the first minute", 0, scheduled("close 0 1;", "R", 0).busiestHour());
        Check.same("the last minute", 23, scheduled("close 0 1;", "R", 1439).busiestHour());
        Check.same("the last minute of an hour", 9, scheduled("close 0 1;", "R", 599).busiestHour());
        Check.same("the first minute of an hour", 10, scheduled("close 0 1;", "R", 600).busiestHour());
        Check.same("a minute more before", 9, scheduled("close 3 2;", "R", 600).busiestHour());
        Check.same("a minute more behind", 10, scheduled("close 2 3;", "R", 600).busiestHour());
    }

    private static void busiestOfSeveral() {
        Check.same("the same before and behind", 9, scheduled("close 3 3;", "R", 600).busiestHour());
        Check.same("the first of several", 2, scheduled("", "RS", 1000, 150).busiestHour());
        Check.same("the first and the last hour", 0, scheduled("close 0 1;", "RR", 1439, 0).busiestHour());
        Check.same("over two roads", 16, scheduled("", "RSSS", 150, 1000, 1000, 1015).busiestHour());
        Check.same("both roads count", 16, scheduled("", "RB", 150, 1000).busiestHour());
        Check.same("a minute counts once a road", 2, scheduled("", "RRR", 150, 1000, 1000).busiestHour());
        BlastPlanner x = scheduled("", "RR", 0, 30);
        Check.same("the first hour", 0, x.busiestHour());
        x.cancel(0);
        x.schedule(1, 800);
        Check.same("no longer", 13, x.busiestHour());
        Check.same("asked again", 13, x.busiestHour());
        x.schedule(1, 1439);
        Check.same("the last hour", 23, x.busiestHour());
        x.cancel(1);
        Check.same("nothing is left", -1, x.busiestHour());
        Check.same("full hours", 9, scheduled("close 60 60;", "R", 600).busiestHour());
    }

    /** The sum is over all roads, also if there are more of them than blasts. */
    private static void busiestOfEachRoad() {
        for (int closed = 0; closed < 6; closed++) {
            StringBuilder text = new StringBuilder("blast q 0 0 1 1 at 0;");
            for (int road = 0; road < 6; road++) {
                String point = road == closed ? "0 0" : "999 999";
                text.append("road ").append((char) ('a' + road)).append(' ').append(point).append(' ').append(point).append(';');
            }
            BlastPlanner x = Texts.loaded(text.toString());
            x.schedule(0, 630);
            Check.same("only road " + closed + " is closed", 10, x.busiestHour());
            Check.same("closed by road " + closed, 15, x.totalClosed());
        }
    }

    // ---- sirens

    /** The sirens as "minute kind blast". */
    private static void sirens(String what, BlastPlanner x, String... due) {
        Check.same(what + ": number", due.length, x.sirenCount());
        for (int k = 0; k < due.length; k++) {
            String got = x.sirenMinute(k) + " " + x.sirenKind(k) + " " + x.sirenBlast(k);
            Check.same(what + ": siren " + k, due[k], got);
        }
    }

    private static void sirensBeforeTheDay() {
        sirens("at 0", scheduled("", "N", 0), "-10 0 0", "-1 1 0", "5 2 0");
        sirens("at 1", scheduled("", "N", 1), "-9 0 0", "0 1 0", "6 2 0");
        sirens("at 9", scheduled("close 0 0;", "N", 9), "-1 0 0", "8 1 0", "9 2 0");
        sirens("at 10", scheduled("close 0 0;", "N", 10), "0 0 0", "9 1 0", "10 2 0");
        sirens("at 0 and 9", scheduled("", "NN", 9, 0), "-10 0 1", "-1 0 0", "-1 1 1", "5 2 1", "8 1 0", "14 2 0");
    }

    private static void sirensBehindTheDay() {
        sirens("at 1439", scheduled("close 0 60;", "N", 1439), "1429 0 0", "1438 1 0", "1499 2 0");
        sirens("at 1439 without closing", scheduled("close 60 0;", "N", 1439), "1429 0 0", "1438 1 0", "1439 2 0");
        sirens("at both ends", scheduled("close 0 1;", "NN", 1439, 0), "-10 0 1", "-1 1 1", "1 2 1", "1429 0 0", "1438 1 0", "1440 2 0");
    }

    private static void sirensInTheSameMinute() {
        // all in minute 600: the warning of b, the final warning of c, the all-clear of a
        sirens("three kinds", scheduled("close 0 0;", "NNN", 600, 610, 601),
                "590 0 0", "591 0 2", "599 1 0", "600 0 1", "600 1 2", "600 2 0", "601 2 2", "609 1 1", "610 2 1");
        sirens("two blasts", scheduled("", "NN", 600, 600), "590 0 0", "590 0 1", "599 1 0", "599 1 1", "605 2 0", "605 2 1");
        BlastPlanner six = scheduled("close 0 0;", "NNNNNN", 0, 0, 0, 0, 0, 0);
        Check.same("six blasts", 18, six.sirenCount());
        for (int k = 0; k < 18; k++) {
            Check.same("kind of " + k, k / 6, six.sirenKind(k));
            Check.same("blast of " + k, k % 6, six.sirenBlast(k));
            Check.same("minute of " + k, k < 6 ? -10 : k < 12 ? -1 : 0, six.sirenMinute(k));
        }
        BlastPlanner x = scheduled("", "NNN", 600, 700, 800);
        x.fire(0);
        x.cancel(1);
        sirens("fired, open and scheduled", x, "590 0 0", "599 1 0", "605 2 0", "790 0 2", "799 1 2", "805 2 2");
    }

    private static void positionsOfSirens() {
        int[] times = {0, 1439, 5, 700, 700, 9};
        for (int count = 0; count <= 6; count++) {
            BlastPlanner x = scheduled("", "NNNNNN", Arrays.copyOf(times, count));
            Check.same("three each", 3 * count, x.sirenCount());
            for (int wrong : new int[] {Integer.MIN_VALUE, -1, 3 * count, 3 * count + 1, Integer.MAX_VALUE}) {
                Check.badArgument("minute of siren " + wrong, () -> x.sirenMinute(wrong));
                Check.badArgument("kind of siren " + wrong, () -> x.sirenKind(wrong));
                Check.badArgument("blast of siren " + wrong, () -> x.sirenBlast(wrong));
            }
            for (int k = 1; k < 3 * count; k++) {
                Check.same("in order " + k, true, x.sirenMinute(k - 1) <= x.sirenMinute(k));
            }
        }
    }
}
