/** Promises 7 to 29: what the text describes, vibration, roads, quiet windows and dust. */
public final class DescriptionTest {
    private static final String SOME = "near n 100 100 30 630 to 690;near m 300 100 9999;"
            + "road r 150 0 150 200;blast a 200 100 60 100 at 0 50 at 5 200 at 20;blast b 120 100 30 10 at 7;";

    public static void main(String[] args) {
        promises7To9Counts();
        promise10StartCount();
        promises11To13Charges();
        promises14And15Sums();
        promises16And17Window();
        promise18Vibration();
        promise19MostShaken();
        promise20TooStrongAt();
        promise21NeededGap();
        promise22VibrationIfGap();
        promises23And24Closes();
        promise25IsQuiet();
        promise26DustAt();
        dustReach();
        promise27NeededRadius();
        promise28QuietMinutes();
        promise29DustHours();
        Check.finish("DescriptionTest");
    }

    private static void promises7To9Counts() {
        BlastPlanner x = Texts.loaded(SOME);
        Check.same("blasts", 2, x.blastCount());
        Check.same("neighbours", 2, x.neighbourCount());
        Check.same("roads", 1, x.roadCount());
    }

    private static void promise10StartCount() {
        Check.same("day 5 5", 1, Texts.loaded("day 5 5;").startCount());
        Check.same("step 1", 1440, Texts.loaded("day 0 1439;step 1;").startCount());
        Check.same("just before a start", 1, Texts.loaded("day 0 239;step 240;").startCount());
        Check.same("just at a start", 2, Texts.loaded("day 0 240;step 240;").startCount());
        Check.same("rounded down", 5, Texts.loaded("day 480 959;step 100;").startCount());
    }

    private static void promises11To13Charges() {
        BlastPlanner x = Texts.loaded(SOME);
        Check.same("charges of a", 3, x.chargeCount(0));
        Check.same("charges of b", 1, x.chargeCount(1));
        Check.same("size", 200, x.chargeSize(0, 2));
        Check.same("size of b", 10, x.chargeSize(1, 0));
        Check.same("delay", 20, x.delay(0, 2));
        Check.same("delay of b", 7, x.delay(1, 0));
        Check.same("delay of the middle", 5, x.delay(0, 1));
        for (int wrong : new int[] {-1, 2, Integer.MIN_VALUE, Integer.MAX_VALUE}) {
            Check.noIndex("charges of blast " + wrong, () -> x.chargeCount(wrong));
            Check.noIndex("size in blast " + wrong, () -> x.chargeSize(wrong, 0));
            Check.noIndex("delay in blast " + wrong, () -> x.delay(wrong, 0));
        }
        for (int wrong : new int[] {-1, 1, 12, Integer.MAX_VALUE}) {
            Check.noIndex("size of charge " + wrong, () -> x.chargeSize(1, wrong));
            Check.noIndex("delay of charge " + wrong, () -> x.delay(1, wrong));
        }
        Check.noIndex("size of charge 3", () -> x.chargeSize(0, 3));
    }

    private static void promises14And15Sums() {
        BlastPlanner x = Texts.loaded("blast a 1 1 1 9 at 50 8 at 20 7 at 90;blast b 1 1 1 999 at 9999;"
                + "blast c 1 1 1" + " 999 at 0".repeat(11) + " 999 at 9999;");
        Check.same("sum", 24, x.totalSize(0));
        Check.same("sum of one", 999, x.totalSize(1));
        Check.same("sum of twelve", 11988, x.totalSize(2));
        Check.same("span", 70, x.delaySpan(0));
        Check.same("span of one", 0, x.delaySpan(1));
        Check.same("greatest span", 9999, x.delaySpan(2));
        x.retime(0, 30);
        Check.same("span after retime", 60, x.delaySpan(0));
        Check.noIndex("sum of blast 3", () -> x.totalSize(3));
        Check.noIndex("span of blast -1", () -> x.delaySpan(-1));
    }

    private static void promises16And17Window() {
        BlastPlanner x = Texts.loaded("blast a 1 1 1 5 at 0 6 at 7 7 at 8;blast b 1 1 1 5 at 30 5 at 10 5 at 20;"
                + "blast c 1 1 1 1 at 0 2 at 5 3 at 12;blast d 1 1 1 4 at 9 4 at 2;"
                + "blast e 1 1 1 9 at 100 1 at 0 2 at 3 7 at 8;");
        Check.same("window of a", 13, x.windowSize(0));
        Check.same("start of a", 7, x.windowStart(0));
        Check.same("window of b", 5, x.windowSize(1));
        Check.same("the least start of b", 10, x.windowStart(1));
        Check.same("window of c", 5, x.windowSize(2));
        Check.same("start of c", 5, x.windowStart(2));
        Check.same("window of d", 8, x.windowSize(3));
        Check.same("start of d", 2, x.windowStart(3));
        Check.same("window of e", 9, x.windowSize(4));
        Check.same("start of e", 3, x.windowStart(4));
        Check.noIndex("window of blast 5", () -> x.windowSize(5));
        Check.noIndex("start of blast -1", () -> x.windowStart(-1));
    }

    private static void promise18Vibration() {
        BlastPlanner x = Texts.loaded("near a 0 0 1;near b 1 0 1;near c 999 999 1;near d 0 2 1;"
                + "blast a 0 0 1" + " 999 at 0".repeat(12) + ";blast b 0 0 1 1 at 0 1 at 7 1 at 20;");
        Check.same("at the place itself", 11988000, x.vibration(0, 0));
        Check.same("one away", 5994000, x.vibration(0, 1));
        Check.same("far away, rounded down", 6, x.vibration(0, 2));
        Check.same("a small one", 2000, x.vibration(1, 0));
        Check.same("a small one, rounded down", 400, x.vibration(1, 3));
        Check.same("nothing left", 0, x.vibration(1, 2));
        Check.noIndex("of blast 2", () -> x.vibration(2, 0));
        Check.noIndex("at neighbour 4", () -> x.vibration(0, 4));
        Check.noIndex("at neighbour -1", () -> x.vibration(0, -1));
    }

    private static void promise19MostShaken() {
        BlastPlanner x = Texts.loaded("near a 9 0 1;near b 0 5 1;near c 5 0 1;near d 6 0 1;"
                + "blast a 0 0 1 9 at 0;blast b 9 0 1 9 at 0;blast c 999 999 1 1 at 0;");
        Check.same("the lowest of several", 1, x.mostShaken(0));
        Check.same("the first", 0, x.mostShaken(1));
        Check.same("all zero", 0, x.mostShaken(2));
        Check.noIndex("blast 3", () -> x.mostShaken(3));
        Check.same("no neighbours", -1, Texts.loaded("blast a 0 0 1 9 at 0;").mostShaken(0));
    }

    private static void promise20TooStrongAt() {
        BlastPlanner x = Texts.loaded("near a 1 0 499;near b 0 1 500;near c 0 0 0;near d 999 999 0;near e 0 1 501;"
                + "blast a 0 0 1 1 at 0;blast b 999 0 1 1 at 0;");
        Check.same("greater than the limit", 0b00101, x.tooStrongAt(0));
        Check.same("nowhere", 0, x.tooStrongAt(1));
        Check.noIndex("blast 2", () -> x.tooStrongAt(2));
        StringBuilder eight = new StringBuilder("blast a 0 0 1 1 at 0;");
        for (char c = 'a'; c < 'i'; c++) {
            eight.append("near ").append(c).append(" 0 0 999;");
        }
        Check.same("everywhere", 255, Texts.loaded(eight.toString()).tooStrongAt(0));
    }

    private static void promise21NeededGap() {
        BlastPlanner x = Texts.loaded("near a 0 0 6000;near b 0 0 3000;near c 0 0 2000;near d 0 0 1000;near e 0 0 999;"
                + "near f 0 0 5999;near g 0 0 4000;near h 999 999 0;blast a 0 0 1" + " 1 at 0".repeat(6) + ";");
        int[] due = {0, 3, 4, 8, -1, 2, 2, 0};
        for (int n = 0; n < due.length; n++) {
            Check.same("gap for neighbour " + n, due[n], x.neededGap(0, n));
        }
        x.retime(0, 100);
        Check.same("does not depend on the delays", 3, x.neededGap(0, 1));
        Check.noIndex("blast 1", () -> x.neededGap(1, 0));
        Check.noIndex("neighbour 8", () -> x.neededGap(0, 8));
        Check.noIndex("neighbour -1", () -> x.neededGap(0, -1));
        BlastPlanner y = Texts.loaded("near a 0 0 5000;blast a 0 0 1 5 at 0 1 at 0 1 at 0 4 at 0;");
        Check.same("unequal sizes", 8, y.neededGap(0, 0));
        y = Texts.loaded("near a 0 0 6000;blast a 0 0 1 5 at 0 1 at 0 1 at 0 4 at 0;");
        Check.same("unequal sizes in twos", 4, y.neededGap(0, 0));
        y.schedule(0, 500 + 0 * y.retime(0, 8));
        y.fire(0);
        Check.same("of a fired blast", 4, y.neededGap(0, 0));
    }

    private static void promise22VibrationIfGap() {
        BlastPlanner x = Texts.loaded("near a 0 0 1;near b 3 0 1;blast a 0 0 1 1 at 0 2 at 99 4 at 0 8 at 0 16 at 99;");
        int[] due = {31000, 31000, 30000, 28000, 24000, 24000, 24000, 24000, 16000, 16000};
        for (int gap = 0; gap < due.length; gap++) {
            Check.same("gap " + gap, due[gap], x.vibrationIfGap(0, 0, gap));
            Check.same("gap " + gap + " three away", due[gap] / 10, x.vibrationIfGap(0, 1, gap));
        }
        Check.same("gap 800", 16000, x.vibrationIfGap(0, 0, 800));
        Check.same("changes nothing", 99, x.delay(0, 1));
        Check.same("records nothing", 0, x.undoDepth());
        Check.badArgument("gap 801", () -> x.vibrationIfGap(0, 0, 801));
        Check.badArgument("gap -1", () -> x.vibrationIfGap(0, 0, -1));
        Check.noIndex("blast 1 first", () -> x.vibrationIfGap(1, 0, 801));
        Check.noIndex("neighbour 2 first", () -> x.vibrationIfGap(0, 2, -1));
    }

    private static void promises23And24Closes() {
        BlastPlanner x = Texts.loaded("road a 10 0 10 100;road b 10 10 10 10;road c 0 0 300 300;road d 500 0 600 0;"
                + "blast a 5 50 5 1 at 0;blast b 4 50 5 1 at 0;blast c 13 14 5 1 at 0;blast d 13 15 5 1 at 0;"
                + "blast e 103 100 2 1 at 0;blast f 603 4 5 1 at 0;");
        int[] due = {0b0001, 0b0000, 0b0111, 0b0101, 0b0000, 0b1000};
        for (int b = 0; b < due.length; b++) {
            Check.same("roads of blast " + b, due[b], x.closedBy(b));
            for (int r = 0; r < 4; r++) {
                Check.same("blast " + b + ", road " + r, (due[b] >> r & 1) == 1, x.closes(b, r));
            }
        }
        Check.noIndex("closes(6, 0)", () -> x.closes(6, 0) ? 1 : 0);
        Check.noIndex("closes(0, 4)", () -> x.closes(0, 4) ? 1 : 0);
        Check.noIndex("closes(0, -1)", () -> x.closes(0, -1) ? 1 : 0);
        Check.noIndex("closedBy(-1)", () -> x.closedBy(-1));
        // the squared distance to the line is 9 / 2, then exactly 25
        BlastPlanner y = Texts.loaded("road c 0 0 300 300;road d 0 0 400 300;blast a 103 100 3 1 at 0;"
                + "blast b 197 154 5 1 at 0;blast c 197 154 4 1 at 0;");
        Check.same("3 reaches", true, y.closes(0, 0));
        Check.same("5 reaches exactly", true, y.closes(1, 1));
        Check.same("4 does not", false, y.closes(2, 1));
        BlastPlanner z = Texts.loaded("blast a 2 1 1 1 at 0;road r 999 1 0 0;blast b 500 0 1 1 at 0;"
                + "road s 0 999 999 0;blast c 0 0 500 1 at 0;blast d 499 999 353 1 at 0;blast e 499 999 352 1 at 0;");
        Check.same("almost flat", 0b01, z.closedBy(0));
        Check.same("almost flat, from above", true, z.closes(1, 0));
        Check.same("a long slope is too far", false, z.closes(2, 1));
        Check.same("353 reaches the slope", true, z.closes(3, 1));
        Check.same("352 does not", false, z.closes(4, 1));
    }

    private static void promise25IsQuiet() {
        BlastPlanner x = Texts.loaded("near a 1 1 1 10 to 20 15 to 30 40 to 41 1439 to 1440;near b 1 1 1;near c 1 1 1 0 to 1440;");
        int[] quiet = {10, 19, 20, 29, 40, 1439};
        int[] loud = {9, 30, 39, 41, 1438, 1440, -1, Integer.MIN_VALUE, Integer.MAX_VALUE, 0};
        for (int m : quiet) {
            Check.same("quiet " + m, true, x.isQuiet(0, m));
        }
        for (int m : loud) {
            Check.same("not quiet " + m, false, x.isQuiet(0, m));
        }
        Check.same("no windows", false, x.isQuiet(1, 0));
        Check.same("all day, first", true, x.isQuiet(2, 0));
        Check.same("all day, before", false, x.isQuiet(2, -1));
        Check.same("all day, behind", false, x.isQuiet(2, 1440));
        Check.noIndex("neighbour 3", () -> x.isQuiet(3, 0) ? 1 : 0);
        Check.noIndex("neighbour -1", () -> x.isQuiet(-1, 0) ? 1 : 0);
    }

    private static void promise26DustAt() {
        // neighbours all around the blast, in the order of the directions
        String text = "near a 100 90 9;near b 110 90 9;near c 110 100 9;near d 110 110 9;"
                + "near e 100 110 9;near f 90 110 9;near g 90 100 9;near h 90 90 9;blast a 100 100 1 1 at 0;";
        StringBuilder winds = new StringBuilder(text);
        for (int d = 0; d < 8; d++) {
            winds.append("wind ").append(d).append(' ').append(d).append(" 1;");
        }
        BlastPlanner x = Texts.loaded(winds.toString());
        for (int d = 0; d < 8; d++) {
            int due = 1 << d | 1 << (d + 1) % 8 | 1 << (d + 7) % 8;
            Check.same("direction " + d, due, x.dustAt(0, d));
        }
        Check.same("no wind", 0, x.dustAt(0, 8));
        Check.badArgument("hour 24", () -> x.dustAt(0, 24));
        Check.badArgument("hour -1", () -> x.dustAt(0, -1));
        Check.noIndex("blast 1 first", () -> x.dustAt(1, 24));
        BlastPlanner y = Texts.loaded("near a 110 89 9;near b 110 91 9;near c 91 110 9;near d 100 100 9;"
                + "blast a 100 100 1 1 at 0;wind 23 2 20;wind 0 2 0;wind 1 4 20;");
        Check.same("just inside and just outside", 0b0010, y.dustAt(0, 23));
        Check.same("speed 0", 0, y.dustAt(0, 0));
        Check.same("downwards", 0b0100, y.dustAt(0, 1));
    }

    private static void dustReach() {
        BlastPlanner x = Texts.loaded("near a 50 0 9;near b 51 0 9;near c 30 40 9;near d 40 30 9;near e 100 0 9;near f 999 0 9;"
                + "blast a 0 0 1 1 at 0;wind 1 2 1;wind 2 2 2;wind 3 2 20;wind 4 3 1;wind 5 3 20;");
        Check.same("speed 1", 0b001001, x.dustAt(0, 1));
        Check.same("speed 2", 0b011011, x.dustAt(0, 2));
        Check.same("speed 20", 0b111011, x.dustAt(0, 3));
        Check.same("aslant, speed 1", 0b001101, x.dustAt(0, 4));
        Check.same("aslant, speed 20", 0b111111, x.dustAt(0, 5));
    }

    private static void promise27NeededRadius() {
        BlastPlanner x = Texts.loaded("road a 10 0 10 100;road b 10 10 10 10;road c 0 0 300 300;road d 0 0 0 0;road e 0 0 400 300;"
                + "blast a 5 50 5 1 at 0;blast b 103 100 1 1 at 0;blast c 999 999 500 1 at 0;blast d 10 7 1 1 at 0;"
                + "blast e 197 154 1 1 at 0;");
        Check.same("at right angles", 5, x.neededRadius(0, 0));
        Check.same("rounded up", 41, x.neededRadius(0, 1));
        Check.same("half a diagonal", 3, x.neededRadius(1, 2));
        Check.same("the farthest", 1413, x.neededRadius(2, 3));
        Check.same("on the road", 0, x.neededRadius(3, 0));
        Check.same("at a point", 3, x.neededRadius(3, 1));
        Check.same("exactly", 5, x.neededRadius(4, 4));
        BlastPlanner y = Texts.loaded("road a 0 0 1 0;blast a 1 1 1 1 at 0;blast b 2 0 1 1 at 0;blast c 3 0 1 1 at 0;");
        Check.same("a road of length 1: beside its end", 1, y.neededRadius(0, 0));
        Check.same("a road of length 1: beside its end, closed", true, y.closes(0, 0));
        Check.same("a road of length 1: behind its end", 1, y.neededRadius(1, 0));
        Check.same("a road of length 1: farther behind", 2, y.neededRadius(2, 0));
        Check.noIndex("blast 5", () -> x.neededRadius(5, 0));
        Check.noIndex("road 5", () -> x.neededRadius(0, 5));
        Check.noIndex("road -1", () -> x.neededRadius(0, -1));
    }

    private static void promise28QuietMinutes() {
        BlastPlanner x = Texts.loaded("near a 1 1 1 10 to 20 15 to 30 40 to 41 1439 to 1440;near b 1 1 1;near c 1 1 1 0 to 1440 5 to 6;"
                + "near d 1 1 1 30 to 40 10 to 20 20 to 30;near e 1 1 1 5 to 9 0 to 100 50 to 200;");
        int[] due = {22, 0, 1440, 30, 200};
        for (int n = 0; n < due.length; n++) {
            Check.same("neighbour " + n, due[n], x.quietMinutes(n));
        }
        Check.noIndex("neighbour 5", () -> x.quietMinutes(5));
        Check.noIndex("neighbour -1", () -> x.quietMinutes(-1));
    }

    private static void promise29DustHours() {
        BlastPlanner x = Texts.loaded("near a 110 100 9;near b 100 90 9;blast a 100 100 1 1 at 0;blast b 999 999 1 1 at 0;"
                + "wind 0 2 1;wind 23 0 20;wind 5 6 20;wind 7 1 3;wind 8 2 0;");
        Check.same("hours", 1 | 1 << 23 | 1 << 7, x.dustHours(0));
        Check.same("no hours", 0, x.dustHours(1));
        Check.noIndex("blast 2", () -> x.dustHours(2));
    }
}
