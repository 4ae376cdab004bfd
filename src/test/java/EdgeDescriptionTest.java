/** Each sentence on what the text describes that names a boundary: promises 7 to 29 and their words. */
public final class EdgeDescriptionTest {
    private static final String TWELVE = " 999 at 0".repeat(12);

    public static void main(String[] args) {
        leastAndMostCounts();
        indexIsTheOrderOfTheInput();
        startMinutes();
        chargesAtTheirLimits();
        windowReachesSevenFurther();
        windowAtTheLastDelays();
        leastDelayOfTheGreatestSum();
        vibrationRoundedDown();
        strongestVibration();
        mostShakenOfSeveral();
        tooStrongIfGreater();
        leastGap();
        gapForEachLimit();
        vibrationAtTheGapsEnds();
        roadAtMostTheRadiusAway();
        roadsOfOnePoint();
        roadsThroughTheCorners();
        radiusFrom0();
        neededRadiusOverTheField();
        quietWindowsEnds();
        quietMinutesCountOnce();
        dustInTheFirstAndTheLastHour();
        dustStraightAheadAndAslant();
        dustReach();
        dustWithoutWind();
        Check.finish("EdgeDescriptionTest");
    }

    // ---- counts

    private static void leastAndMostCounts() {
        BlastPlanner x = new BlastPlanner();
        for (int n = 0; n <= 8; n++) {
            Texts.load(x, lines("near", n, "1 1 1") + lines("road", Math.min(n, 6), "1 1 1 1")
                    + lines("blast", Math.max(0, n - 2), "1 1 1 1 at 1"));
            Check.same("neighbours", n, x.neighbourCount());
            Check.same("roads", Math.min(n, 6), x.roadCount());
            Check.same("blasts", Math.max(0, n - 2), x.blastCount());
        }
    }

    private static void indexIsTheOrderOfTheInput() {
        BlastPlanner x = Texts.loaded("blast z 0 0 1 1 at 0;road z 0 0 0 0;near z 0 0 9;near y 5 0 9 1 to 3;blast y 5 0 1 2 at 7 1 at 3;"
                + "road a 5 0 5 0;near a 9 0 9;blast a 9 0 1 3 at 0;");
        Check.same("the first blast", 1, x.totalSize(0));
        Check.same("the last blast", 3, x.totalSize(2));
        Check.same("its charges keep their order", 7, x.delay(1, 0));
        Check.same("also the second", 3, x.delay(1, 1));
        Check.same("the neighbour at the last blast", 2, x.mostShaken(2));
        Check.same("the second neighbour's window", 2, x.quietMinutes(1));
        Check.same("the second road", 0b10, x.closedBy(1));
    }

    private static void startMinutes() {
        starts("day 0 0;step 1;", 1);
        starts("day 1439 1439;step 240;", 1);
        starts("day 0 1439;step 1;", 1440);
        starts("day 0 1439;step 240;", 6);
        starts("day 0 1200;step 240;", 6);
        starts("day 0 1199;step 240;", 5);
        starts("day 1199 1439;step 240;", 2);
        starts("day 1200 1439;step 240;", 1);
        starts("day 479 480;step 1;", 2);
        starts("", 9);
        starts("step 240;", 3);
        starts("step 1;", 481);
    }

    private static void starts(String text, int due) {
        Check.same("starts of " + text, due, Texts.loaded(text).startCount());
    }

    private static void chargesAtTheirLimits() {
        BlastPlanner x = Texts.loaded("blast a 0 0 1 1 at 0;blast b 999 999 500" + TWELVE + ";blast c 0 999 1 999 at 9999;"
                + "blast d 0 0 1 1 at 9999" + " 1 at 5".repeat(10) + " 999 at 0;");
        Check.same("the least number of charges", 1, x.chargeCount(0));
        Check.same("the greatest number of charges", 12, x.chargeCount(1));
        Check.same("the least size", 1, x.chargeSize(0, 0));
        Check.same("the greatest size", 999, x.chargeSize(1, 11));
        Check.same("the least delay", 0, x.delay(0, 0));
        Check.same("the greatest delay", 9999, x.delay(2, 0));
        Check.same("the first of twelve", 9999, x.delay(3, 0));
        Check.same("the last of twelve", 0, x.delay(3, 11));
        Check.same("the size of the last of twelve", 999, x.chargeSize(3, 11));
        Check.same("the least sum", 1, x.totalSize(0));
        Check.same("the greatest sum", 11988, x.totalSize(1));
        Check.same("the span of one charge", 0, x.delaySpan(2));
        Check.same("the span of equal delays", 0, x.delaySpan(1));
        Check.same("the greatest span, the greatest delay first", 9999, x.delaySpan(3));
        x.retime(1, 800);
        Check.same("the span of the greatest gap", 8800, x.delaySpan(1));
        Check.same("the last delay of the greatest gap", 8800, x.delay(1, 11));
    }

    // ---- vibration

    private static void windowReachesSevenFurther() {
        for (int apart = 0; apart <= 16; apart++) {
            BlastPlanner x = Texts.loaded("blast a 0 0 1 5 at 100 3 at " + (100 + apart) + ";blast b 0 0 1 3 at " + (100 + apart)
                    + " 5 at 100;blast c 0 0 1 3 at 100 5 at " + (100 + apart) + ";");
            int due = apart <= 7 ? 8 : 5;
            Check.same("apart by " + apart, due, x.windowSize(0));
            Check.same("apart by " + apart + ", the other way", due, x.windowSize(1));
            Check.same("start", 100, x.windowStart(0));
            Check.same("start, the other way", 100, x.windowStart(1));
            Check.same("start of the greater one", apart <= 7 ? 100 : 100 + apart, x.windowStart(2));
        }
    }

    private static void windowAtTheLastDelays() {
        BlastPlanner x = Texts.loaded("blast a 0 0 1 1 at 9992 1 at 9999;blast b 0 0 1 1 at 9991 1 at 9999;"
                + "blast c 0 0 1 1 at 0 2 at 7 1 at 9999;blast d 0 0 1" + TWELVE + ";blast e 0 0 1 7 at 9999;");
        Check.same("7 before the last", 2, x.windowSize(0));
        Check.same("8 before the last", 1, x.windowSize(1));
        Check.same("the delays do not wrap", 3, x.windowSize(2));
        Check.same("all twelve", 11988, x.windowSize(3));
        Check.same("from 0", 0, x.windowStart(3));
        Check.same("from 9999", 9999, x.windowStart(4));
    }

    private static void leastDelayOfTheGreatestSum() {
        BlastPlanner x = Texts.loaded("blast a 0 0 1 4 at 300 4 at 200 4 at 100;blast b 0 0 1 4 at 100 4 at 200 4 at 300;"
                + "blast c 0 0 1 4 at 100 5 at 300 5 at 200;blast d 0 0 1 2 at 8 2 at 4 2 at 0;"
                + "blast e 0 0 1 1 at 50 9 at 57;blast f 0 0 1 9 at 57 1 at 65 1 at 50 1 at 64;");
        int[] sizes = {4, 4, 5, 4, 10, 10};
        int[] starts = {100, 100, 200, 0, 50, 50};
        for (int b = 0; b < sizes.length; b++) {
            Check.same("window of blast " + b, sizes[b], x.windowSize(b));
            Check.same("start of blast " + b, starts[b], x.windowStart(b));
        }
    }

    private static void vibrationRoundedDown() {
        BlastPlanner x = Texts.loaded("near a 0 0 9;near b 1 0 9;near c 1 1 9;near d 0 31 9;near e 30 10 9;near f 32 0 9;"
                + "near g 999 999 9;blast a 0 0 1 1 at 0;blast b 0 0 1 999 at 0 998 at 7;blast c 999 999 1 1 at 0;");
        int[] due = {1000, 500, 333, 1, 0, 0, 0};
        for (int n = 0; n < due.length; n++) {
            Check.same("at neighbour " + n, due[n], x.vibration(0, n));
        }
        Check.same("corner to corner, 1997000 / 1996003", 1, x.vibration(1, 6));
        Check.same("corner to corner, a small one", 0, x.vibration(2, 0));
        BlastPlanner y = Texts.loaded("near a 999 999 9;blast a 0 0 1 999 at 0 997 at 7;blast b 0 0 1 999 at 0 998 at 8;");
        Check.same("1996000 / 1996003", 0, y.vibration(0, 0));
        Check.same("alone", 0, y.vibration(1, 0));
    }

    private static void strongestVibration() {
        BlastPlanner x = Texts.loaded("near a 500 500 99999;near b 501 500 99999;blast a 500 500 1" + TWELVE + ";");
        Check.same("the greatest of all", 11988000, x.vibration(0, 0));
        Check.same("half of it", 5994000, x.vibration(0, 1));
        Check.same("both too strong", 0b11, x.tooStrongAt(0));
        Check.same("if all go at once", 11988000, x.vibrationIfGap(0, 0, 0));
        Check.same("a charge alone", 999000, x.vibrationIfGap(0, 0, 8));
        Check.same("no gap helps", -1, x.neededGap(0, 0));
        Check.same("nor one away", -1, x.neededGap(0, 1));
    }

    private static void mostShakenOfSeveral() {
        BlastPlanner x = Texts.loaded(lines("near", 8, "5 5 9") + "blast a 5 5 1 1 at 0;blast b 999 999 1 1 at 0;");
        Check.same("all the same", 0, x.mostShaken(0));
        Check.same("all none", 0, x.mostShaken(1));
        Check.same("the last", 7, Texts.loaded(lines("near", 7, "5 5 9") + "near z 5 6 9;blast a 5 6 1 1 at 0;").mostShaken(0));
        // distances differ, the vibrations rounded down do not
        BlastPlanner y = Texts.loaded("near a 22 9 9;near b 23 0 9;near c 22 8 9;blast a 0 0 1 1 at 0;");
        Check.same("1000 / 566", 1, y.vibration(0, 0));
        Check.same("1000 / 530", 1, y.vibration(0, 1));
        Check.same("the lowest of several that are the same", 0, y.mostShaken(0));
        Check.same("no neighbours", -1, Texts.loaded("blast a 0 0 1" + TWELVE + ";").mostShaken(0));
    }

    private static void tooStrongIfGreater() {
        for (int n = 0; n < 8; n++) {
            BlastPlanner x = Texts.loaded(lines("near", n, "0 0 1000") + "near z 0 0 999;" + "blast a 0 0 1 1 at 0;");
            Check.same("the limit itself is not too strong", 1 << n, x.tooStrongAt(0));
        }
        Check.same("all 8", 255, Texts.loaded(lines("near", 8, "0 0 0") + "blast a 0 0 1 1 at 0;").tooStrongAt(0));
        Check.same("limit 0, vibration 0", 0, Texts.loaded("near a 32 0 0;blast a 0 0 1 1 at 0;").tooStrongAt(0));
        Check.same("limit 0, vibration 1", 1, Texts.loaded("near a 31 0 0;blast a 0 0 1 1 at 0;").tooStrongAt(0));
        Check.same("limit 99999, vibration 99900", 0, Texts.loaded("near a 3 0 99999;blast a 0 0 1 999 at 0;").tooStrongAt(0));
        Check.same("limit 99999, vibration 100000", 1, Texts.loaded("near a 3 0 99999;blast a 0 0 1 999 at 0 1 at 0;").tooStrongAt(0));
        Check.same("no neighbours", 0, Texts.loaded("blast a 0 0 1" + TWELVE + ";").tooStrongAt(0));
    }

    /** With the gap g, charges i and k are in one window if they are at most 7 apart: (k - i) * g <= 7. */
    private static void leastGap() {
        int[] together = {12, 8, 4, 3, 2, 2, 2, 2, 1, 1};
        for (int gap = 0; gap < together.length; gap++) {
            BlastPlanner x = Texts.loaded("near a 0 0 1000;blast a 0 0 1" + " 1 at 500".repeat(12) + ";");
            Check.same("vibration with gap " + gap, 1000 * together[gap], x.vibrationIfGap(0, 0, gap));
            Check.same("window with gap " + gap, together[gap], x.retime(0, gap));
            Check.same("vibration afterwards", 1000 * together[gap], x.vibration(0, 0));
            Check.same("start", 0, x.windowStart(0));
        }
    }

    private static void gapForEachLimit() {
        int[] limits = {12000, 11999, 8000, 7999, 4000, 3999, 3000, 2999, 2000, 1999, 1000, 999, 0};
        int[] due = {0, 1, 1, 2, 2, 3, 3, 4, 4, 8, 8, -1, -1};
        for (int i = 0; i < limits.length; i++) {
            BlastPlanner x = Texts.loaded("near n 0 0 " + limits[i] + ";blast a 0 0 1" + " 1 at 9".repeat(12) + ";");
            Check.same("limit " + limits[i], due[i], x.neededGap(0, 0));
            if (due[i] >= 0) {
                x.retime(0, due[i]);
                Check.same("then it is not too strong", 0, x.tooStrongAt(0));
            }
        }
        BlastPlanner one = Texts.loaded("near n 0 0 1000;near m 0 0 999;blast a 0 0 1 1 at 9999;");
        Check.same("one charge needs none", 0, one.neededGap(0, 0));
        Check.same("or none is enough", -1, one.neededGap(0, 1));
        // a gap, not the delays as they are: these are far apart already
        BlastPlanner apart = Texts.loaded("near n 0 0 1000;blast a 0 0 1 1 at 0 1 at 5000;");
        Check.same("not too strong now", 0, apart.tooStrongAt(0));
        Check.same("but with gaps below 8", 8, apart.neededGap(0, 0));
    }

    private static void vibrationAtTheGapsEnds() {
        BlastPlanner x = Texts.loaded("near n 0 0 0;blast a 0 0 1 3 at 1 4 at 2 5 at 3;");
        Check.same("gap 0", 12000, x.vibrationIfGap(0, 0, 0));
        Check.same("gap 7", 9000, x.vibrationIfGap(0, 0, 7));
        Check.same("gap 8", 5000, x.vibrationIfGap(0, 0, 8));
        Check.same("gap 799", 5000, x.vibrationIfGap(0, 0, 799));
        Check.same("gap 800", 5000, x.vibrationIfGap(0, 0, 800));
        Check.same("the delays stay", 3, x.delay(0, 2));
        Check.same("the window stays", 12, x.windowSize(0));
        Check.same("nothing is recorded", 0, x.undoDepth());
    }

    // ---- roads

    private static void roadAtMostTheRadiusAway() {
        // beside the line, before its first end, behind its last end, and at the slope 3 : 4
        String[] roads = {"100 100 100 300", "300 100 100 100", "100 100 300 100", "0 0 800 600"};
        String[] points = {"93 200", "93 100", "307 100", "394 308"};
        int[] distances = {7, 7, 7, 10};
        for (int i = 0; i < roads.length; i++) {
            for (int radius = distances[i] - 1; radius <= distances[i] + 1; radius++) {
                BlastPlanner x = Texts.loaded("road r " + roads[i] + ";blast a " + points[i] + " " + radius + " 1 at 0;");
                boolean due = radius >= distances[i];
                Check.same("road " + i + ", radius " + radius, due, x.closes(0, 0));
                Check.same("road " + i + ", set, radius " + radius, due ? 1 : 0, x.closedBy(0));
                Check.same("road " + i + ", needed", distances[i], x.neededRadius(0, 0));
            }
        }
        // no rounding of the distance: the squared ones are 50, 41 and 81 / 2
        BlastPlanner x = Texts.loaded("road r 0 0 0 0;road s 0 97 97 0;blast a 5 5 7 1 at 0;blast b 4 5 7 1 at 0;"
                + "blast c 43 45 7 1 at 0;blast d 43 45 6 1 at 0;");
        Check.same("50 is more than 49", false, x.closes(0, 0));
        Check.same("and needs 8", 8, x.neededRadius(0, 0));
        Check.same("41 is less than 49", true, x.closes(1, 0));
        Check.same("81 / 2 is less than 49", true, x.closes(2, 1));
        Check.same("81 / 2 is more than 36", false, x.closes(3, 1));
        Check.same("and needs 7", 7, x.neededRadius(3, 1));
    }

    private static void roadsOfOnePoint() {
        BlastPlanner x = Texts.loaded("road r 50 50 50 50;road s 0 0 0 0;road t 999 999 999 999;blast a 50 50 1 1 at 0;"
                + "blast b 51 50 1 1 at 0;blast c 51 51 1 1 at 0;blast d 999 0 500 1 at 0;");
        int[] needed = {0, 1, 2, 951};
        for (int b = 0; b < needed.length; b++) {
            Check.same("needed by " + b, needed[b], x.neededRadius(b, 0));
        }
        Check.same("closed at the point", 1, x.closedBy(0));
        Check.same("closed one away", 1, x.closedBy(1));
        Check.same("not closed by the root of 2", 0, x.closedBy(2));
        Check.same("the whole width", 999, x.neededRadius(3, 1));
        Check.same("the whole height", 999, x.neededRadius(3, 2));
        Check.same("500 is not enough", 0, x.closedBy(3));
    }

    private static void roadsThroughTheCorners() {
        BlastPlanner x = Texts.loaded("road r 0 0 999 999;road s 999 999 0 0;road t 0 0 999 998;blast a 0 999 500 1 at 0;"
                + "blast b 500 499 1 1 at 0;blast c 999 999 1 1 at 0;blast d 999 998 1 1 at 0;");
        // 999 / root of 2 = 706.4
        Check.same("the other corner", 707, x.neededRadius(0, 0));
        Check.same("the other way round", 707, x.neededRadius(0, 1));
        Check.same("half a step", 1, x.neededRadius(1, 0));
        Check.same("on its end", 0, x.neededRadius(2, 0));
        Check.same("on its beginning", 0, x.neededRadius(2, 1));
        Check.same("one below", 1, x.neededRadius(2, 2));
        Check.same("on the other end", 0, x.neededRadius(3, 2));
        Check.same("closed by all", 0b111, x.closedBy(1));
        BlastPlanner six = Texts.loaded(lines("road", 6, "5 5 5 5") + "blast a 5 5 1 1 at 0;blast b 7 5 1 1 at 0;");
        Check.same("all 6", 63, six.closedBy(0));
        Check.same("none of 6", 0, six.closedBy(1));
        Check.same("the last one", true, six.closes(0, 5));
        Check.same("no roads", 0, Texts.loaded("blast a 5 5 500 1 at 0;").closedBy(0));
    }

    private static void radiusFrom0() {
        BlastPlanner x = Texts.loaded("road r 0 0 999 999;road s 0 0 999 0;road t 999 999 999 999;blast a 0 0 1 1 at 0;"
                + "blast b 333 333 1 1 at 0;blast c 333 0 1 1 at 0;blast d 999 999 1 1 at 0;");
        Check.same("at an end", 0, x.neededRadius(0, 0));
        Check.same("on a slope", 0, x.neededRadius(1, 0));
        Check.same("on a level", 0, x.neededRadius(2, 1));
        Check.same("at a point", 0, x.neededRadius(3, 2));
        Check.same("the farthest", 1413, x.neededRadius(0, 2));
        Check.same("closed though 0 is needed", true, x.closes(1, 0));
    }

    /** Points around roads of every slope: the distance is measured once more, with fractions. */
    private static void neededRadiusOverTheField() {
        int[][] roads = {{120, 40, 30, 410}, {0, 0, 0, 0}, {500, 3, 500, 480}, {3, 250, 499, 250}, {499, 499, 0, 1}, {40, 480, 470, 20},
            {200, 200, 201, 203}};
        for (int[] road : roads) {
            String text = "road r " + road[0] + " " + road[1] + " " + road[2] + " " + road[3] + ";";
            for (int x = 0; x < 1000; x += 111) {
                for (int y = 0; y < 1000; y += 111) {
                    fieldPoint(text, road, x, y);
                    fieldPoint(text, road, x / 3, y / 3);
                }
            }
        }
    }

    private static void fieldPoint(String text, int[] road, int x, int y) {
        int due = (int) Math.ceil(distance(road, x, y) - 1e-7);
        String blast = "blast a " + x + " " + y + " ";
        int radius = Math.min(Math.max(due, 1), 500);
        BlastPlanner planner = Texts.loaded(text + blast + radius + " 1 at 0;");
        Check.same(text + blast + "needed", due, planner.neededRadius(0, 0));
        Check.same(text + blast + "with " + radius, radius >= due, planner.closes(0, 0));
        if (due > 1 && due <= 501) {
            BlastPlanner smaller = Texts.loaded(text + blast + (due - 1) + " 1 at 0;");
            Check.same(text + blast + "with one less", false, smaller.closes(0, 0));
        }
    }

    private static double distance(int[] road, int x, int y) {
        double alongX = road[2] - road[0];
        double alongY = road[3] - road[1];
        double square = alongX * alongX + alongY * alongY;
        double part = square == 0 ? 0 : ((x - road[0]) * alongX + (y - road[1]) * alongY) / square;
        part = Math.max(0, Math.min(1, part));
        return Math.hypot(x - road[0] - part * alongX, y - road[1] - part * alongY);
    }

    // ---- quiet windows

    private static void quietWindowsEnds() {
        BlastPlanner x = Texts.loaded("near a 1 1 1 0 to 1;near b 1 1 1 1439 to 1440;near c 1 1 1 0 to 1440;near d 1 1 1;"
                + "near e 1 1 1 600 to 601;near f 1 1 1 100 to 200 200 to 300;");
        quiet(x, 0, 0, 0);
        quiet(x, 1, 1439, 1439);
        quiet(x, 2, 0, 1439);
        quiet(x, 3, 0, -1);
        quiet(x, 4, 600, 600);
        quiet(x, 5, 100, 299);
    }

    private static void quiet(BlastPlanner x, int neighbour, int first, int last) {
        int[] minutes = {Integer.MIN_VALUE, -1440, -1, 0, 1, first - 1, first, first + 1, 199, 200, last - 1, last, last + 1,
            1438, 1439, 1440, 2880, Integer.MAX_VALUE};
        for (int minute : minutes) {
            boolean due = minute >= first && minute <= last;
            Check.same("neighbour " + neighbour + " at " + minute, due, x.isQuiet(neighbour, minute));
        }
        Check.same("minutes of " + neighbour, last - first + 1, x.quietMinutes(neighbour));
    }

    private static void quietMinutesCountOnce() {
        String[] windows = {"", " 0 to 1440", " 0 to 1440 0 to 1440 0 to 1440 0 to 1440", " 10 to 20 10 to 20", " 10 to 20 20 to 30",
            " 20 to 30 10 to 20", " 10 to 20 21 to 30", " 10 to 20 19 to 30", " 10 to 30 15 to 20", " 15 to 20 10 to 30",
            " 0 to 1 1439 to 1440", " 0 to 10 20 to 30 40 to 50 5 to 45", " 5 to 6 3 to 4 1 to 2 0 to 9", " 4 to 5 3 to 4 2 to 3 1 to 2"};
        int[] due = {0, 1440, 1440, 10, 20, 20, 19, 20, 20, 20, 2, 50, 9, 4};
        for (int i = 0; i < windows.length; i++) {
            Check.same("minutes of" + windows[i], due[i], Texts.loaded("near n 1 1 1" + windows[i] + ";").quietMinutes(0));
        }
    }

    // ---- dust

    private static void dustInTheFirstAndTheLastHour() {
        BlastPlanner x = Texts.loaded("near n 10 0 9999;blast a 0 0 1 1 at 0;wind 0 2 1;wind 23 2 1;day 0 1439;");
        Check.same("hour 0", 1, x.dustAt(0, 0));
        Check.same("hour 1", 0, x.dustAt(0, 1));
        Check.same("hour 22", 0, x.dustAt(0, 22));
        Check.same("hour 23", 1, x.dustAt(0, 23));
        Check.same("both hours", 1 | 1 << 23, x.dustHours(0));
        int[] minutes = {0, 59, 60, 1379, 1380, 1439};
        int[] due = {4, 4, 0, 0, 4, 4};
        for (int i = 0; i < minutes.length; i++) {
            Check.same("minute " + minutes[i], due[i], x.reason(0, minutes[i]));
        }
        StringBuilder all = new StringBuilder();
        for (int hour = 0; hour < 24; hour++) {
            all.append("wind ").append(hour).append(" 2 1;");
        }
        BlastPlanner y = Texts.loaded(all + lines("near", 8, "10 0 9999") + "blast a 0 0 1 1 at 0;");
        Check.same("all hours", (1 << 24) - 1, y.dustHours(0));
        Check.same("all neighbours", 255, y.dustAt(0, 23));
    }

    /** Along each direction: straight ahead, at half a right angle to both sides, and one step beyond it. */
    private static void dustStraightAheadAndAslant() {
        int[] stepX = {0, 1, 1, 1, 0, -1, -1, -1};
        int[] stepY = {-1, -1, 0, 1, 1, 1, 0, -1};
        for (int d = 0; d < 8; d++) {
            String wind = "wind 5 " + d + " 20;blast a 500 500 1 1 at 0;";
            int left = (d + 7) % 8;
            int right = (d + 1) % 8;
            dust(wind, 30 * stepX[d], 30 * stepY[d], true);
            dust(wind, 30 * stepX[left], 30 * stepY[left], true);
            dust(wind, 30 * stepX[right], 30 * stepY[right], true);
            dust(wind, 30 * stepX[left] - stepX[d], 30 * stepY[left] - stepY[d], false);
            dust(wind, 30 * stepX[right] - stepX[d], 30 * stepY[right] - stepY[d], false);
            dust(wind, 30 * stepX[left] + stepX[d], 30 * stepY[left] + stepY[d], true);
            dust(wind, 30 * stepX[right] + stepX[d], 30 * stepY[right] + stepY[d], true);
            dust(wind, -30 * stepX[d], -30 * stepY[d], false);
            dust(wind, -stepX[d], -stepY[d], false);
            dust(wind, stepX[d], stepY[d], true);
            dust(wind, 0, 0, false);
            dust(wind, stepY[d], -stepX[d], false);
            dust(wind, -stepY[d], stepX[d], false);
        }
    }

    private static void dust(String wind, int dx, int dy, boolean due) {
        BlastPlanner x = Texts.loaded(wind + "near n " + (500 + dx) + " " + (500 + dy) + " 9;");
        Check.same(wind + " " + dx + " " + dy, due ? 1 : 0, x.dustAt(0, 5));
        Check.same(wind + " " + dx + " " + dy + ", hours", due ? 1 << 5 : 0, x.dustHours(0));
    }

    private static void dustReach() {
        for (int speed = 0; speed <= 19; speed++) {
            String text = "wind 5 2 " + speed + ";blast a 0 0 1 1 at 0;near n " + 50 * speed + " 0 9;near m " + (50 * speed + 1)
                    + " 0 9;near k " + 30 * speed + " " + 40 * speed + " 9;near l " + 40 * speed + " " + 30 * speed + " 9;";
            BlastPlanner x = Texts.loaded(text);
            Check.same("speed " + speed, speed == 0 ? 0 : 0b1001, x.dustAt(0, 5));
        }
        BlastPlanner x = Texts.loaded("wind 5 2 20;wind 6 3 20;near a 999 0 9;near b 999 44 9;near c 999 45 9;near d 999 999 9;"
                + "near e 707 707 9;near f 708 707 9;blast a 0 0 1 1 at 0;");
        Check.same("straight, speed 20", 0b010011, x.dustAt(0, 5));
        Check.same("aslant, speed 20", 0b010000, x.dustAt(0, 6) & 0b111000);
    }

    private static void dustWithoutWind() {
        BlastPlanner x = Texts.loaded("near n 10 0 9999;wind 7 2 0;blast a 0 0 1 1 at 0;");
        for (int hour = 0; hour < 24; hour++) {
            Check.same("hour " + hour, 0, x.dustAt(0, hour));
        }
        Check.same("no hours", 0, x.dustHours(0));
        Check.same("no neighbours", 0, Texts.loaded("wind 7 2 20;blast a 0 0 1 1 at 0;").dustHours(0));
    }

    private static String lines(String word, int count, String rest) {
        StringBuilder text = new StringBuilder();
        for (int i = 0; i < count; i++) {
            text.append(word).append(' ').append((char) ('a' + i)).append(' ').append(rest).append(';');
        }
        return text.toString();
    }
}
