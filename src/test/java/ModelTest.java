import java.nio.charset.StandardCharsets;

/** Long runs of calls with made-up texts and arguments, each answer compared with the model's. */
public final class ModelTest {
    private static final int RUNS = 1500;
    /** An object is used for at most 512 calls; this leaves room for a text and a formatted one behind the last of these. */
    private static final int CALLS = 430;
    private static final int[] ODD = {Integer.MIN_VALUE, -1, 0, 1, 5, 6, 7, 8, 12, 23, 24, 479, 480, 800, 801, 960, 1439,
        1440, Integer.MAX_VALUE};

    private long seed;
    private BlastPlanner planner;
    private Model model;
    private int calls;
    private String lastText = "";

    public static void main(String[] args) {
        for (int run = 1; run <= RUNS; run++) {
            new ModelTest().run(run);
        }
        Check.finish("ModelTest");
    }

    private void run(int number) {
        seed = number * 7919L;
        planner = new BlastPlanner();
        model = new Model();
        calls = 0;
        loadSome();
        while (calls < CALLS) {
            if (chance(model.blastCount() == 0 ? 30 : 1)) {
                loadSome();
            }
            int kind = pick(0, 9);
            String call = kind < 4 ? action() : kind < 7 ? timeQuery() : query();
            if (!call.isEmpty()) {
                Check.count(false, "run " + number + ", after " + lastText + ": " + call);
                return;
            }
        }
        Check.count(true, "");
    }

    private int pick(int least, int most) {
        seed = seed * 6364136223846793005L + 1442695040888963407L;
        return least + (int) ((seed >>> 33) % (most - least + 1));
    }

    private boolean chance(int percent) {
        return pick(0, 99) < percent;
    }

    private int of(int... choices) {
        return choices[pick(0, choices.length - 1)];
    }

    private int odd(int least, int most) {
        return chance(4) ? of(ODD) : pick(least, most);
    }

    /** Compares the outcomes of one call; an empty text says that they are the same. */
    private String both(String what, Check.Call got, Check.Call due) {
        calls++;
        String dueOutcome = Check.outcome(due);
        String gotOutcome = Check.outcome(got);
        return dueOutcome.equals(gotOutcome) ? "" : what + ": due is " + dueOutcome + ", got " + gotOutcome;
    }

    private String both(String what, Check.Call got, Check.Call due, int... arguments) {
        StringBuilder call = new StringBuilder(what);
        for (int argument : arguments) {
            call.append(' ').append(argument);
        }
        return both(call.toString(), got, due);
    }

    // ---- texts

    private void loadSome() {
        String text = text();
        if (chance(30)) {
            text = spoiled(text);
        }
        lastText = text;
        byte[] bytes = text.getBytes(StandardCharsets.ISO_8859_1);
        for (int at = 0; at < bytes.length; at += 20) {
            int[] words = new int[5];
            for (int i = 0; i < 5; i++) {
                words[i] = Texts.word(bytes, at + 4 * i);
            }
            report(both("append", () -> planner.append(words[0], words[1], words[2], words[3], words[4]),
                    () -> model.append(words)));
        }
        report(both("truncate", () -> planner.truncate(bytes.length) ? 1 : 0, () -> model.truncate(bytes.length) ? 1 : 0));
        report(both("load", planner::load, model::load));
        report(both("errorOffset", planner::errorOffset, model::errorOffset));
        report(both("errorKind", planner::errorKind, model::errorKind));
    }

    private void report(String complaint) {
        Check.count(complaint.isEmpty(), lastText + ": " + complaint);
    }

    private String text() {
        int size = of(30, 100, 999);
        StringBuilder text = new StringBuilder();
        settings(text);
        for (int i = pick(0, 5); i > 0; i--) {
            text.append("wind ").append(pick(6, 17)).append(space()).append(pick(0, 7)).append(' ')
                    .append(pick(0, 20)).append(end());
        }
        places(text, size);
        if (chance(15)) {
            settings(text);
        }
        return text.length() <= 800 || chance(10) ? text.toString() : text.substring(0, text.lastIndexOf(";", 799) + 1);
    }

    /** Lines of the three kinds in any order, now and then one more than there may be. */
    private void places(StringBuilder text, int size) {
        int[] left = {pick(0, 5), pick(0, 5), pick(1, 6)};
        if (chance(5)) {
            left[pick(0, 2)] = 9;
        }
        int total = left[0] + left[1] + left[2];
        for (int line = 0; line < total; line++) {
            int kind = pick(0, 2);
            while (left[kind] == 0) {
                kind = (kind + 1) % 3;
            }
            left[kind]--;
            text.append(new String[] {"near", "road", "blast"}[kind]).append(space()).append(name(line))
                    .append(space()).append(pick(0, size)).append(space()).append(pick(0, size)).append(space());
            if (kind == 0) {
                text.append(of(0, 10, 100, 1000, 99999, 99999, 99999, 99999));
                windows(text);
            } else if (kind == 1) {
                text.append(pick(0, size)).append(space()).append(pick(0, size));
            } else {
                text.append(chance(80) ? pick(1, Math.min(500, size)) : of(1, 500));
                charges(text);
            }
            text.append(end());
        }
    }

    private void settings(StringBuilder text) {
        if (chance(70)) {
            int first = of(0, 300, 480, 600, 1200);
            text.append("day ").append(first).append(space()).append(pick(first, 1439)).append(end());
        }
        if (chance(70)) {
            text.append("step").append(space()).append(of(1, 7, 20, 60, 90, 120, 130, 240)).append(end());
        }
        if (chance(60)) {
            text.append("close ").append(of(0, 1, 10, 30, 60)).append(space()).append(of(0, 1, 5, 40, 60)).append(end());
        }
        if (chance(60)) {
            text.append("space ").append(of(0, 0, 1, 15, 30, 60, 240)).append(end());
        }
    }

    private String name(int line) {
        String[] names = {"a", "b", "at", "near", "blast", "abcdef", "zz", "z", "to", "q", "road", "zzzzzz", "day", "aa",
            "abcde", "c", "d", "wind"};
        return line < names.length && chance(98) ? names[line] : names[pick(0, 12)];
    }

    private void windows(StringBuilder text) {
        int count = chance(97) ? pick(0, 4) : 5;
        for (int i = 0; i < count; i++) {
            int first = pick(0, 1439);
            text.append(space()).append(first).append(" to ").append(pick(first + 1, chance(80) ? Math.min(1440, first + 90) : 1440));
        }
    }

    private void charges(StringBuilder text) {
        int count = chance(90) ? pick(1, 5) : pick(5, 13);
        for (int i = 0; i < count; i++) {
            text.append(space()).append(pick(1, of(9, 99, 999))).append(" at ").append(chance(90) ? pick(0, 40) : pick(0, 9999));
        }
    }

    private String space() {
        return chance(95) ? " " : new String[] {"\n", "\t ", "  "}[pick(0, 2)];
    }

    private String end() {
        return chance(90) ? ";" : new String[] {"\n;", "; ", ";\t\n"}[pick(0, 2)];
    }

    private String spoiled(String text) {
        StringBuilder spoiled = new StringBuilder(text);
        String signs = "a0 ;9z\t\n1xto?A\r-\u00ff\u0000";
        for (int i = pick(1, 2); i > 0 && spoiled.length() > 0; i--) {
            int at = pick(0, spoiled.length() - 1);
            char sign = signs.charAt(pick(0, signs.length() - 1));
            switch (pick(0, 4)) {
                case 0:
                    spoiled.setLength(at);
                    break;
                case 1:
                    spoiled.deleteCharAt(at);
                    break;
                case 2:
                    spoiled.setCharAt(at, sign);
                    break;
                case 3:
                    spoiled.insert(at, sign);
                    break;
                default:
                    int to = pick(at, Math.min(spoiled.length(), at + 30));
                    spoiled.append(spoiled.substring(at, to));
                    break;
            }
        }
        return spoiled.toString();
    }

    // ---- calls

    private int blast() {
        return odd(0, Math.max(0, model.blastCount() - 1));
    }

    private int neighbour() {
        return odd(0, Math.max(0, model.neighbourCount() - 1));
    }

    private int road() {
        return odd(0, Math.max(0, model.roadCount() - 1));
    }

    private int minute() {
        int[] day = model.w.day;
        int near = day[0] + model.w.step * pick(0, 12);
        return chance(50) ? Math.min(near, day[1]) : chance(70) ? pick(day[0], day[1]) : odd(0, 1439);
    }

    private String action() {
        int b = blast();
        int m = minute();
        int gap = chance(60) ? pick(0, 9) : odd(0, 800);
        switch (pick(0, 11)) {
            case 0: case 1: case 2: case 3: case 4:
                return both("schedule", () -> planner.schedule(b, m), () -> model.schedule(b, m), b, m);
            case 5: case 6:
                return both("cancel", () -> planner.cancel(b), () -> model.cancel(b), b);
            case 7:
                int next = chance(60) ? model.nextBlast(0) : b;
                return both("fire", () -> planner.fire(next), () -> model.fire(next), next);
            case 8: case 9:
                return both("retime", () -> planner.retime(b, gap), () -> model.retime(b, gap), b, gap);
            case 10:
                return chance(30) ? both("applyPlan", planner::applyPlan, model::applyPlan) : "";
            default:
                return both("undo", planner::undo, model::undo);
        }
    }

    private String timeQuery() {
        int b = blast();
        int m = minute();
        int reason = odd(0, 5);
        switch (pick(0, 12)) {
            case 0:
                return both("timeOf", () -> planner.timeOf(b), () -> model.timeOf(b), b);
            case 1:
                return both("isFired", () -> planner.isFired(b) ? 1 : 0, () -> model.isFired(b) ? 1 : 0, b);
            case 2:
                return both("reason", () -> planner.reason(b, m), () -> model.reason(b, m), b, m);
            case 3:
                return both("earliest", () -> planner.earliest(b, m), () -> model.earliest(b, m), b, m);
            case 4:
                return both("latest", () -> planner.latest(b, m), () -> model.latest(b, m), b, m);
            case 5:
                return both("reasonCount", () -> planner.reasonCount(b, reason), () -> model.reasonCount(b, reason), b, reason);
            case 6:
                return both("longestAllowed", () -> planner.longestAllowed(b), () -> model.longestAllowed(b), b);
            case 7:
                return both("allowedCount", () -> planner.allowedCount(b), () -> model.allowedCount(b), b);
            case 8:
                return both("nextBlast", () -> planner.nextBlast(m), () -> model.nextBlast(m), m);
            case 9:
                return chance(15) ? both("planLength", planner::planLength, model::planLength) : "";
            case 10:
                return chance(15) ? both("planTime", () -> planner.planTime(b), () -> model.planTime(b), b) : "";
            case 11:
                return both("undoDepth", planner::undoDepth, model::undoDepth);
            default:
                return formatted(b);
        }
    }

    private String formatted(int b) {
        String call = both("format", () -> planner.format(b), () -> model.format(b), b);
        for (int i = -1; i < 32 && call.isEmpty(); i++) {
            int at = i;
            call = both("formattedByte", () -> planner.formattedByte(at), () -> model.formattedByte(at), at);
        }
        return call;
    }

    private String query() {
        int part = pick(0, 2);
        return part == 0 ? describedQuery() : part == 1 ? placeQuery() : closedQuery();
    }

    private String describedQuery() {
        int b = blast();
        int n = neighbour();
        int charge = odd(0, 3);
        int gap = chance(60) ? pick(0, 9) : odd(0, 800);
        switch (pick(0, 15)) {
            case 0:
                return both("blastCount", planner::blastCount, model::blastCount);
            case 1:
                return both("neighbourCount", planner::neighbourCount, model::neighbourCount);
            case 2:
                return both("roadCount", planner::roadCount, model::roadCount);
            case 3:
                return both("startCount", planner::startCount, model::startCount);
            case 4:
                return both("chargeCount", () -> planner.chargeCount(b), () -> model.chargeCount(b), b);
            case 5:
                return both("chargeSize", () -> planner.chargeSize(b, charge), () -> model.chargeSize(b, charge), b, charge);
            case 6:
                return both("delay", () -> planner.delay(b, charge), () -> model.delay(b, charge), b, charge);
            case 7:
                return both("totalSize", () -> planner.totalSize(b), () -> model.totalSize(b), b);
            case 8:
                return both("delaySpan", () -> planner.delaySpan(b), () -> model.delaySpan(b), b);
            case 9:
                return both("windowSize", () -> planner.windowSize(b), () -> model.windowSize(b), b);
            case 10:
                return both("windowStart", () -> planner.windowStart(b), () -> model.windowStart(b), b);
            case 11:
                return both("vibration", () -> planner.vibration(b, n), () -> model.vibration(b, n), b, n);
            case 12:
                return both("mostShaken", () -> planner.mostShaken(b), () -> model.mostShaken(b), b);
            case 13:
                return both("tooStrongAt", () -> planner.tooStrongAt(b), () -> model.tooStrongAt(b), b);
            case 14:
                return both("neededGap", () -> planner.neededGap(b, n), () -> model.neededGap(b, n), b, n);
            default:
                return both("vibrationIfGap", () -> planner.vibrationIfGap(b, n, gap), () -> model.vibrationIfGap(b, n, gap), b, n, gap);
        }
    }

    private String placeQuery() {
        int b = blast();
        int n = neighbour();
        int r = road();
        int hour = odd(0, 23);
        int m = odd(0, 1439);
        switch (pick(0, 8)) {
            case 0:
                return both("closes", () -> planner.closes(b, r) ? 1 : 0, () -> model.closes(b, r) ? 1 : 0, b, r);
            case 1:
                return both("closedBy", () -> planner.closedBy(b), () -> model.closedBy(b), b);
            case 2:
                return both("isQuiet", () -> planner.isQuiet(n, m) ? 1 : 0, () -> model.isQuiet(n, m) ? 1 : 0, n, m);
            case 3:
                return both("dustAt", () -> planner.dustAt(b, hour), () -> model.dustAt(b, hour), b, hour);
            case 4:
                return both("neededRadius", () -> planner.neededRadius(b, r), () -> model.neededRadius(b, r), b, r);
            case 5:
                return both("quietMinutes", () -> planner.quietMinutes(n), () -> model.quietMinutes(n), n);
            case 6:
                return both("dustHours", () -> planner.dustHours(b), () -> model.dustHours(b), b);
            case 7:
                return both("errorOffset", planner::errorOffset, model::errorOffset);
            default:
                return both("truncate", () -> planner.truncate(m) ? 1 : 0, () -> model.truncate(m) ? 1 : 0, m);
        }
    }

    private String closedQuery() {
        int r = road();
        int other = road();
        int m = minute() + pick(-15, 10);
        int last = chance(70) ? m + pick(0, 200) : odd(0, 1439);
        int k = odd(0, 8);
        switch (pick(0, 12)) {
            case 0:
                return both("closedMinutes", () -> planner.closedMinutes(r), () -> model.closedMinutes(r), r);
            case 1:
                return both("totalClosed", planner::totalClosed, model::totalClosed);
            case 2:
                return both("isClosed", () -> planner.isClosed(r, m) ? 1 : 0, () -> model.isClosed(r, m) ? 1 : 0, r, m);
            case 3:
                return both("closures", () -> planner.closures(r), () -> model.closures(r), r);
            case 4:
                return both("closureStart", () -> planner.closureStart(r, k), () -> model.closureStart(r, k), r, k);
            case 5:
                return both("closureLength", () -> planner.closureLength(r, k), () -> model.closureLength(r, k), r, k);
            case 6:
                return both("openMinutes", () -> planner.openMinutes(r, m, last), () -> model.openMinutes(r, m, last), r, m, last);
            case 7:
                return both("sharedMinutes", () -> planner.sharedMinutes(r, other), () -> model.sharedMinutes(r, other), r, other);
            case 8:
                return both("busiestHour", planner::busiestHour, model::busiestHour);
            case 9:
                return both("sirenCount", planner::sirenCount, model::sirenCount);
            case 10:
                return both("sirenMinute", () -> planner.sirenMinute(k), () -> model.sirenMinute(k), k);
            case 11:
                return both("sirenKind", () -> planner.sirenKind(k), () -> model.sirenKind(k), k);
            default:
                return both("sirenBlast", () -> planner.sirenBlast(k), () -> model.sirenBlast(k), k);
        }
    }
}
