/** Each sentence on times and the actions on one blast that names a boundary: promises 30 to 42 and their words. */
public final class EdgeTimesTest {
    private static final String ALL_DAY = "day 0 1439;step 1;";

    public static void main(String[] args) {
        workingMinutes();
        vibrationAtItsLimit();
        quietWithinThreeRadii();
        quietInTheFirstAndTheLastMinute();
        dustInTheHourOfTheMinute();
        spacingOnBothSides();
        spacingAtTheEndsOfTheDay();
        spacing0And1();
        openBlastsDoNotCrowd();
        reasonsInTheirOrder();
        reasonWhateverItsOwnTime();
        earliestFromEachEnd();
        latestToEachEnd();
        stepsOnly();
        reasonsFromAllowedToCrowded();
        longestOfAllStartMinutes();
        nextBlastOfAnyInt();
        scheduleAtTheEndsOfTheDay();
        scheduleInPlace();
        cancelScheduled();
        fireInOrder();
        retimeAtTheGapsEnds();
        retimeKeepsTheTime();
        Check.finish("EdgeTimesTest");
    }

    private static String blasts(int count) {
        StringBuilder text = new StringBuilder();
        for (int i = 0; i < count; i++) {
            text.append("blast ").append((char) ('a' + i)).append(" 0 0 1 1 at 0;");
        }
        return text.toString();
    }

    private static void reasons(String what, BlastPlanner x, int blast, int[] minutes, int... due) {
        for (int i = 0; i < minutes.length; i++) {
            Check.same(what + " at " + minutes[i], due[i], x.reason(blast, minutes[i]));
        }
    }

    // ---- reasons

    private static void workingMinutes() {
        int[] minutes = {0, 1, 479, 480, 481, 959, 960, 961, 1438, 1439};
        reasons("480 to 960", Texts.loaded(blasts(1)), 0, minutes, 1, 1, 1, 0, 0, 0, 0, 1, 1, 1);
        reasons("0 to 1439", Texts.loaded("day 0 1439;" + blasts(1)), 0, minutes, 0, 0, 0, 0, 0, 0, 0, 0, 0, 0);
        reasons("0 to 0", Texts.loaded("day 0 0;" + blasts(1)), 0, minutes, 0, 1, 1, 1, 1, 1, 1, 1, 1, 1);
        reasons("1439 to 1439", Texts.loaded("day 1439 1439;" + blasts(1)), 0, minutes, 1, 1, 1, 1, 1, 1, 1, 1, 1, 0);
        reasons("480 to 480", Texts.loaded("day 480 480;" + blasts(1)), 0, minutes, 1, 1, 1, 0, 1, 1, 1, 1, 1, 1);
        reasons("1 to 1438", Texts.loaded("day 1 1438;" + blasts(1)), 0, minutes, 1, 0, 0, 0, 0, 0, 0, 0, 0, 1);
    }

    private static void vibrationAtItsLimit() {
        for (int n = 0; n < 8; n++) {
            StringBuilder text = new StringBuilder(blasts(1));
            for (int i = 0; i < 8; i++) {
                text.append("near ").append((char) ('a' + i)).append(" 0 0 ").append(i == n ? 999 : 1000).append(';');
            }
            Check.same("greater at neighbour " + n, BlastPlanner.VIBRATION, Texts.loaded(text.toString()).reason(0, 600));
        }
        Check.same("the limit itself", BlastPlanner.ALLOWED, Texts.loaded("near n 0 0 1000;" + blasts(1)).reason(0, 600));
    }

    private static void quietWithinThreeRadii() {
        String quiet = " 99999 0 to 1440;";
        String[] near = {"30 0", "0 30", "18 24"};
        String[] far = {"31 0", "30 1", "0 31", "18 25"};
        for (String place : near) {
            Check.same("within: " + place, 3, Texts.loaded("near n " + place + quiet + "blast a 0 0 10 1 at 0;").reason(0, 600));
        }
        for (String place : far) {
            Check.same("beyond: " + place, 0, Texts.loaded("near n " + place + quiet + "blast a 0 0 10 1 at 0;").reason(0, 600));
        }
        Check.same("radius 1, 3 away", 3, Texts.loaded("near n 3 0" + quiet + "blast a 0 0 1 1 at 0;").reason(0, 600));
        Check.same("radius 1, 4 away", 0, Texts.loaded("near n 4 0" + quiet + "blast a 0 0 1 1 at 0;").reason(0, 600));
        // 3 * 471 = 1413 is just above the diagonal of the field, 3 * 470 just below it
        Check.same("radius 471", 3, Texts.loaded("near n 999 999" + quiet + "blast a 0 0 471 1 at 0;").reason(0, 600));
        Check.same("radius 470", 0, Texts.loaded("near n 999 999" + quiet + "blast a 0 0 470 1 at 0;").reason(0, 600));
        Check.same("radius 500", 3, Texts.loaded("near n 999 999" + quiet + "blast a 0 0 500 1 at 0;").reason(0, 600));
        String loud = "near m 0 0 99999;";
        Check.same("a quiet one behind one that is not", 3, Texts.loaded(loud + "near n 3 0" + quiet
                + "blast a 0 0 1 1 at 0;").reason(0, 600));
        Check.same("a quiet one before one that is not", 3, Texts.loaded("near n 3 0" + quiet + loud
                + "blast a 0 0 1 1 at 0;").reason(0, 600));
        Check.same("a quiet one that is too far", 0, Texts.loaded(loud + "near n 4 0" + quiet
                + "blast a 0 0 1 1 at 0;").reason(0, 600));
    }

    private static void quietInTheFirstAndTheLastMinute() {
        BlastPlanner x = Texts.loaded(ALL_DAY + "near n 0 0 99999 0 to 1 600 to 602 1439 to 1440;" + blasts(1));
        int[] minutes = {0, 1, 599, 600, 601, 602, 1438, 1439};
        reasons("quiet", x, 0, minutes, 3, 0, 0, 3, 3, 0, 0, 3);
        Check.same("quiet start minutes", 4, x.reasonCount(0, BlastPlanner.QUIET));
        Check.same("the first that is not", 1, x.earliest(0, 0));
        Check.same("the last that is not", 1438, x.latest(0, 1439));
        BlastPlanner all = Texts.loaded(ALL_DAY + "near n 0 0 99999 0 to 1440;" + blasts(1));
        Check.same("quiet all day", 1440, all.reasonCount(0, BlastPlanner.QUIET));
        Check.same("nothing allowed", -1, all.earliest(0, 0));
    }

    private static void dustInTheHourOfTheMinute() {
        for (int hour = 0; hour < 24; hour++) {
            BlastPlanner x = Texts.loaded(ALL_DAY + "near n 9 0 99999;wind " + hour + " 2 1;" + blasts(1));
            Check.same("first minute of hour " + hour, 4, x.reason(0, 60 * hour));
            Check.same("last minute of hour " + hour, 4, x.reason(0, 60 * hour + 59));
            Check.same("minutes of hour " + hour, 60, x.reasonCount(0, BlastPlanner.DUST));
            Check.same("hours of hour " + hour, 1 << hour, x.dustHours(0));
        }
    }

    private static void spacingOnBothSides() {
        for (int space : new int[] {1, 2, 15, 239, 240}) {
            BlastPlanner x = Texts.loaded(ALL_DAY + "space " + space + ";" + blasts(2));
            x.schedule(0, 700);
            int[] minutes = {700 - space - 1, 700 - space, 700 - space + 1, 700, 700 + space - 1, 700 + space, 700 + space + 1};
            reasons("space " + space, x, 1, minutes, 0, 0, 5, 5, 5, 0, 0);
            Check.same("crowded minutes of " + space, 2 * space - 1, x.reasonCount(1, BlastPlanner.CROWDED));
            x.fire(0);
            reasons("fired, space " + space, x, 1, minutes, 0, 0, 5, 5, 5, 0, 0);
        }
    }

    private static void spacingAtTheEndsOfTheDay() {
        BlastPlanner x = Texts.loaded(ALL_DAY + "space 240;" + blasts(3));
        x.schedule(0, 0);
        int[] minutes = {0, 1, 239, 240, 1200, 1438, 1439};
        reasons("the day does not wrap", x, 1, minutes, 5, 5, 5, 0, 0, 0, 0);
        Check.same("the last minute", -1, x.schedule(1, 1439));
        reasons("at both ends", x, 2, minutes, 5, 5, 5, 0, 5, 5, 5);
        Check.same("room from", 240, x.earliest(2, 0));
        Check.same("room to", 1199, x.latest(2, 1439));
        Check.same("room between", 960, x.longestAllowed(2));
    }

    private static void spacing0And1() {
        BlastPlanner x = Texts.loaded(ALL_DAY + "space 0;" + blasts(6));
        for (int b = 0; b < 6; b++) {
            Check.same("all at once", -1, x.schedule(b, 0));
        }
        BlastPlanner y = Texts.loaded(ALL_DAY + "space 1;" + blasts(2));
        y.schedule(0, 1439);
        Check.badState("not at once", () -> y.schedule(1, 1439));
        Check.same("a minute before", -1, y.schedule(1, 1438));
    }

    private static void openBlastsDoNotCrowd() {
        BlastPlanner x = Texts.loaded("day 0 1439;space 240;" + blasts(6));
        for (int minute : new int[] {0, 1, 239, 1439}) {
            Check.same("no time, no crowd, at " + minute, 0, x.reason(0, minute));
        }
        x.schedule(5, 100);
        Check.same("the last one crowds the first one", 5, x.reason(0, 0));
        x.cancel(5);
        Check.same("until it is open again", 0, x.reason(0, 0));
        x.schedule(0, 100);
        Check.same("the first one crowds the last one", 5, x.reason(5, 0));
    }

    /** All five reasons are there; each stands until the ones before it are taken away. */
    private static void reasonsInTheirOrder() {
        String[] kept = {"day 601 700;", "near v 0 0 0;", "near q 3 0 99999 600 to 601;", "wind 10 2 20;near d 99 0 99999;", "space 240;"};
        for (int from = 0; from <= 5; from++) {
            for (int alone = 0; alone < 2; alone++) {
                StringBuilder text = new StringBuilder("space 0;blast a 0 0 1 1 at 0;blast b 999 999 1 1 at 0;");
                for (int i = from; i < 5 && (alone == 0 || i == from); i++) {
                    text.append(kept[i]);
                }
                BlastPlanner x = Texts.loaded(text.toString());
                x.schedule(1, 650);
                Check.same("reason " + (from + 1) % 6 + (alone == 0 ? " first" : " alone"), (from + 1) % 6, x.reason(0, 600));
            }
        }
    }

    private static void reasonWhateverItsOwnTime() {
        BlastPlanner x = Texts.loaded("space 240;" + blasts(2));
        x.schedule(0, 700);
        for (int minute : new int[] {461 + 19, 699, 700, 701, 939}) {
            Check.same("scheduled, at " + minute, 0, x.reason(0, minute));
        }
        x.fire(0);
        Check.same("fired, at its time", 0, x.reason(0, 700));
        Check.same("fired, elsewhere", 0, x.reason(0, 500));
        Check.same("fired, its start minutes", 9, x.allowedCount(0));
        Check.same("fired, the earliest", 480, x.earliest(0, 0));
        Check.same("another one", 5, x.reason(1, 700));
    }

    // ---- start minutes

    private static void earliestFromEachEnd() {
        BlastPlanner x = Texts.loaded("day 480 960;step 60;near n 0 0 99999 480 to 481 720 to 721 960 to 961;" + blasts(1));
        int[] from = {0, 480, 481, 540, 541, 660, 661, 719, 720, 721, 780, 900, 901, 960, 961, 1439};
        int[] due = {540, 540, 540, 540, 600, 660, 780, 780, 780, 780, 780, 900, -1, -1, -1, -1};
        for (int i = 0; i < from.length; i++) {
            Check.same("earliest from " + from[i], due[i], x.earliest(0, from[i]));
        }
        BlastPlanner all = Texts.loaded(ALL_DAY + blasts(1));
        Check.same("from 0", 0, all.earliest(0, 0));
        Check.same("from 1439", 1439, all.earliest(0, 1439));
        Check.same("too strong", -1, Texts.loaded("near n 0 0 0;" + blasts(1)).earliest(0, 0));
    }

    private static void latestToEachEnd() {
        BlastPlanner x = Texts.loaded("day 480 960;step 60;near n 0 0 99999 480 to 481 720 to 721 960 to 961;" + blasts(1));
        int[] to = {0, 479, 480, 481, 539, 540, 541, 659, 660, 720, 779, 780, 899, 900, 959, 960, 961, 1439};
        int[] due = {-1, -1, -1, -1, -1, 540, 540, 600, 660, 660, 660, 780, 840, 900, 900, 900, 900, 900};
        for (int i = 0; i < to.length; i++) {
            Check.same("latest to " + to[i], due[i], x.latest(0, to[i]));
        }
        BlastPlanner all = Texts.loaded(ALL_DAY + blasts(1));
        Check.same("to 0", 0, all.latest(0, 0));
        Check.same("to 1439", 1439, all.latest(0, 1439));
        Check.same("too strong", -1, Texts.loaded("near n 0 0 0;" + blasts(1)).latest(0, 1439));
    }

    /** Minutes between the steps are allowed, but they are no start minutes. */
    private static void stepsOnly() {
        BlastPlanner x = Texts.loaded("day 100 339;step 240;" + blasts(1));
        Check.same("one start minute", 1, x.startCount());
        Check.same("the last working minute is allowed", 0, x.reason(0, 339));
        Check.same("but no start minute", -1, x.earliest(0, 101));
        Check.same("nor the latest", 100, x.latest(0, 1439));
        Check.same("one is allowed", 1, x.allowedCount(0));
        Check.same("it can be scheduled all the same", -1, x.schedule(0, 339));
        BlastPlanner y = Texts.loaded("day 100 340;step 240;" + blasts(1));
        Check.same("the last working minute is one", 340, y.earliest(0, 101));
    }

    private static void reasonsFromAllowedToCrowded() {
        BlastPlanner x = Texts.loaded(ALL_DAY + "space 10;near q 3 0 99999 0 to 100;near d 30 0 99999;wind 5 2 1;" + blasts(2));
        x.schedule(1, 1439);
        int[] due = {1440 - 100 - 60 - 10, 0, 0, 100, 60, 10};
        for (int reason = BlastPlanner.ALLOWED; reason <= BlastPlanner.CROWDED; reason++) {
            Check.same("count of reason " + reason, due[reason], x.reasonCount(0, reason));
        }
        Check.same("allowed", due[0], x.allowedCount(0));
        BlastPlanner none = Texts.loaded("day 7 7;near q 3 0 99999 7 to 8;" + blasts(1));
        Check.same("no allowed one", 0, none.allowedCount(0));
        Check.same("one quiet one", 1, none.reasonCount(0, 3));
        Check.same("start minutes are never out of hours", 0, none.reasonCount(0, BlastPlanner.OUT_OF_HOURS));
    }

    private static void longestOfAllStartMinutes() {
        String[] quiet = {"", " 0 to 1", " 9 to 10", " 0 to 1 9 to 10", " 4 to 5", " 5 to 6", " 0 to 10", " 1 to 9", " 1 to 10", " 0 to 9",
            " 1 to 2 4 to 5 8 to 9"};
        int[] due = {10, 9, 9, 8, 5, 5, 0, 1, 1, 1, 3};
        for (int i = 0; i < quiet.length; i++) {
            BlastPlanner x = Texts.loaded("day 0 9;step 1;near n 0 0 99999" + quiet[i] + ";" + blasts(1));
            Check.same("longest without" + quiet[i], due[i], x.longestAllowed(0));
        }
        Check.same("all day", 1440, Texts.loaded(ALL_DAY + blasts(1)).longestAllowed(0));
        // a quiet minute between two start minutes does not part them
        Check.same("between the steps", 9, Texts.loaded("near n 0 0 99999 481 to 540;" + blasts(1)).longestAllowed(0));
    }

    // ---- actions

    private static void nextBlastOfAnyInt() {
        BlastPlanner x = Texts.loaded("day 0 1439;space 0;" + blasts(6));
        Check.same("none scheduled", -1, x.nextBlast(Integer.MIN_VALUE));
        x.schedule(5, 0);
        x.schedule(4, 1439);
        x.schedule(3, 1439);
        x.schedule(2, 700);
        int[] minutes = {Integer.MIN_VALUE, -1, 0, 1, 700, 701, 1438, 1439, 1440, Integer.MAX_VALUE};
        int[] due = {5, 5, 5, 2, 2, 3, 3, 3, -1, -1};
        for (int i = 0; i < minutes.length; i++) {
            Check.same("next from " + minutes[i], due[i], x.nextBlast(minutes[i]));
        }
        x.fire(5);
        Check.same("not a fired one", 2, x.nextBlast(0));
        x.cancel(2);
        Check.same("not an open one", 3, x.nextBlast(-1));
        x.fire(3);
        x.fire(4);
        Check.same("all fired or open", -1, x.nextBlast(Integer.MIN_VALUE));
    }

    private static void scheduleAtTheEndsOfTheDay() {
        BlastPlanner x = Texts.loaded("day 0 1439;space 0;" + blasts(2));
        Check.same("minute 0", -1, x.schedule(0, 0));
        Check.same("its time", 0, x.timeOf(0));
        Check.same("minute 1439", -1, x.schedule(1, 1439));
        Check.same("its time, too", 1439, x.timeOf(1));
        Check.same("the previous time 0 is a time", 0, x.schedule(0, 1439));
        Check.same("the previous time 1439", 1439, x.schedule(0, 0));
        Check.same("cancelled at 0", 0, x.cancel(0));
        Check.same("open", -1, x.schedule(0, 0));
        Check.same("fired at 0", 0, x.fire(0));
        Check.same("fired at 1439", 1439, x.fire(1));
        BlastPlanner y = Texts.loaded(blasts(1));
        Check.badState("479", () -> y.schedule(0, 479));
        Check.same("480", -1, y.schedule(0, 480));
        Check.same("960", 480, y.schedule(0, 960));
        Check.badState("961", () -> y.schedule(0, 961));
        Check.same("no start minute", 960, y.schedule(0, 481));
    }

    private static void scheduleInPlace() {
        BlastPlanner x = Texts.loaded("space 240;" + blasts(1));
        x.schedule(0, 600);
        Check.same("its own time does not crowd it", 600, x.schedule(0, 601));
        Check.same("the same minute again", 601, x.schedule(0, 601));
        Check.same("all are recorded", 3, x.undoDepth());
        Check.same("one time only", 3, x.sirenCount());
    }

    private static void cancelScheduled() {
        BlastPlanner x = Texts.loaded(blasts(2));
        x.schedule(1, 700);
        Check.same("its time before", 700, x.cancel(1));
        Check.same("open", -1, x.timeOf(1));
        Check.badState("not twice", () -> x.cancel(1));
        Check.badState("never scheduled", () -> x.cancel(0));
        Check.same("no sirens", 0, x.sirenCount());
        Check.same("two actions", 2, x.undoDepth());
    }

    private static void fireInOrder() {
        BlastPlanner x = Texts.loaded("day 0 1439;space 0;" + blasts(6));
        int[] times = {1439, 0, 700, 700, 0, 699};
        int[] order = {1, 4, 5, 2, 3, 0};
        for (int b = 0; b < 6; b++) {
            x.schedule(b, times[b]);
        }
        for (int next = 0; next < 6; next++) {
            for (int b = 0; b < 6; b++) {
                int wrong = b;
                if (b != order[next]) {
                    Check.badState("fire " + b + " as number " + next, () -> x.fire(wrong));
                }
            }
            Check.same("next", order[next], x.nextBlast(Integer.MIN_VALUE));
            Check.same("fire", times[order[next]], x.fire(order[next]));
            Check.same("keeps its time", times[order[next]], x.timeOf(order[next]));
        }
        BlastPlanner y = Texts.loaded("space 0;" + blasts(2));
        y.schedule(0, 800);
        y.fire(0);
        y.schedule(1, 500);
        Check.same("before a fired one", 500, y.fire(1));
    }

    private static void retimeAtTheGapsEnds() {
        BlastPlanner x = Texts.loaded("blast a 0 0 1" + " 999 at 9999".repeat(12) + ";blast b 0 0 1 7 at 9999;");
        Check.same("gap 0", 11988, x.retime(0, 0));
        Check.same("first delay", 0, x.delay(0, 0));
        Check.same("last delay", 0, x.delay(0, 11));
        Check.same("gap 7", 1998, x.retime(0, 7));
        Check.same("gap 8", 999, x.retime(0, 8));
        Check.same("gap 800", 999, x.retime(0, 800));
        for (int c = 0; c < 12; c++) {
            Check.same("delay " + c, 800 * c, x.delay(0, c));
        }
        Check.same("size stays", 999, x.chargeSize(0, 11));
        Check.same("one charge", 7, x.retime(1, 800));
        Check.same("its delay is 0", 0, x.delay(1, 0));
        Check.badArgument("gap 801", () -> x.retime(1, 801));
        Check.badArgument("gap -1", () -> x.retime(1, -1));
    }

    private static void retimeKeepsTheTime() {
        BlastPlanner x = Texts.loaded("near n 0 0 1000;road r 0 0 0 0;blast a 0 0 1 1 at 0 1 at 8;blast b 0 0 1 1 at 0;");
        x.schedule(0, 600);
        Check.same("retimed", 2, x.retime(0, 7));
        Check.same("not allowed any longer", BlastPlanner.VIBRATION, x.reason(0, 600));
        Check.same("stays at its time", 600, x.timeOf(0));
        Check.same("and closes", 15, x.totalClosed());
        Check.same("and crowds", BlastPlanner.CROWDED, x.reason(1, 614));
        Check.same("and can be fired", 600, x.fire(0));
        Check.same("undone", 2, x.undo());
        Check.same("cancelled", 600, x.cancel(0));
        Check.badState("then it cannot come back", () -> x.schedule(0, 600));
    }
}
