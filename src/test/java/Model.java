import java.nio.charset.StandardCharsets;
import java.util.ArrayDeque;
import java.util.ArrayList;
import java.util.Arrays;
import java.util.BitSet;
import java.util.Deque;
import java.util.HashSet;
import java.util.List;
import java.util.Set;

/** The document once more, as slow and as near to its words as can be, to compare the class with. */
final class Model {
    static final int NONE = -1;

    static final class Place {
        String name;
        int[] values;
        List<int[]> windows = new ArrayList<>();
    }

    static final class Shot {
        String name;
        int x;
        int y;
        int radius;
        List<int[]> charges = new ArrayList<>();
        int time = NONE;
        boolean fired;

        Shot copy() {
            Shot c = new Shot();
            c.name = name;
            c.x = x;
            c.y = y;
            c.radius = radius;
            for (int[] charge : charges) {
                c.charges.add(charge.clone());
            }
            c.time = time;
            c.fired = fired;
            return c;
        }
    }

    static final class World {
        List<Place> neighbours = new ArrayList<>();
        List<Place> roads = new ArrayList<>();
        List<Shot> blasts = new ArrayList<>();
        int[] day = {480, 960};
        int step = 60;
        int[] close = {10, 5};
        int space = 15;
        int[][] winds = new int[24][];
    }

    static final class Wrong extends Exception {
        private static final long serialVersionUID = 1;
        final int offset;
        final int kind;

        Wrong(int offset, int kind) {
            this.offset = offset;
            this.kind = kind;
        }
    }

    World w = new World();
    private byte[] buffer = new byte[0];
    private int errorOffset = NONE;
    private int errorKind = 0;
    private final Deque<List<Shot>> undone = new ArrayDeque<>();
    private String text = "";

    // ---- input

    int append(int... words) {
        if (buffer.length + 20 > 800) {
            return NONE;
        }
        int from = buffer.length;
        buffer = Arrays.copyOf(buffer, from + 20);
        for (int i = 0; i < 20; i++) {
            buffer[from + i] = (byte) (words[i / 4] >>> 8 * (3 - i % 4));
        }
        return buffer.length;
    }

    boolean truncate(int length) {
        if (length < 0 || length > buffer.length) {
            return false;
        }
        buffer = Arrays.copyOf(buffer, length);
        return true;
    }

    int load() {
        byte[] bytes = buffer;
        buffer = new byte[0];
        try {
            World world = new Reading(new String(bytes, StandardCharsets.ISO_8859_1)).world();
            w = world;
            errorOffset = NONE;
            errorKind = 0;
            undone.clear();
            return w.blasts.size();
        } catch (Wrong e) {
            errorOffset = e.offset;
            errorKind = e.kind;
            throw new IllegalArgumentException();
        }
    }

    int errorOffset() {
        return errorOffset;
    }

    int errorKind() {
        return errorKind;
    }

    /** Cuts the text into tokens first and follows a pattern for each line then. */
    static final class Reading {
        private final List<String> tokens = new ArrayList<>();
        private final List<Integer> offsets = new ArrayList<>();
        private final World world = new World();
        private int at = 0;

        Reading(String text) {
            int i = 0;
            while (i < text.length()) {
                int from = i;
                char c = text.charAt(i++);
                if (c == ' ' || c == '\t' || c == '\n') {
                    continue;
                }
                String run = letter(c) ? "[a-z]" : digit(c) ? "[0-9]" : null;
                while (run != null && i < text.length() && text.substring(i, i + 1).matches(run)) {
                    i++;
                }
                tokens.add(text.substring(from, i));
                offsets.add(from);
            }
            tokens.add("");
            offsets.add(text.length());
        }

        private static boolean letter(char c) {
            return c >= 'a' && c <= 'z';
        }

        private static boolean digit(char c) {
            return c >= '0' && c <= '9';
        }

        World world() throws Wrong {
            while (!peek().isEmpty()) {
                line();
                literal(";");
            }
            return world;
        }

        private String peek() {
            return tokens.get(at);
        }

        private Wrong wrong(int kind) {
            return new Wrong(offsets.get(at), kind);
        }

        private void literal(String due) throws Wrong {
            if (!peek().equals(due)) {
                throw wrong(BlastPlanner.SYNTAX);
            }
            at++;
        }

        private int number(int least, int most) throws Wrong {
            String token = peek();
            if (token.isEmpty() || !digit(token.charAt(0))) {
                throw wrong(BlastPlanner.SYNTAX);
            }
            if (token.length() > 5 || Integer.parseInt(token) < least || Integer.parseInt(token) > most) {
                throw wrong(BlastPlanner.BAD_NUMBER);
            }
            at++;
            return Integer.parseInt(token);
        }

        private boolean numberNext() {
            return !peek().isEmpty() && digit(peek().charAt(0));
        }

        private String name(Set<String> used) throws Wrong {
            String token = peek();
            if (!token.matches("[a-z]{1,6}")) {
                throw wrong(BlastPlanner.SYNTAX);
            }
            if (used.contains(token)) {
                throw wrong(BlastPlanner.BAD_NAME);
            }
            at++;
            return token;
        }

        private void room(int used, int most) throws Wrong {
            if (used == most) {
                throw wrong(BlastPlanner.TOO_MANY);
            }
        }

        private void line() throws Wrong {
            switch (peek()) {
                case "day":
                    at++;
                    int first = number(0, 1439);
                    world.day = new int[] {first, number(first, 1439)};
                    break;
                case "step":
                    at++;
                    world.step = number(1, 240);
                    break;
                case "close":
                    at++;
                    world.close = new int[] {number(0, 60), number(0, 60)};
                    break;
                case "space":
                    at++;
                    world.space = number(0, 240);
                    break;
                case "wind":
                    at++;
                    int hour = number(0, 23);
                    world.winds[hour] = new int[] {number(0, 7), number(0, 20)};
                    break;
                case "near":
                    near();
                    break;
                case "road":
                    road();
                    break;
                case "blast":
                    blast();
                    break;
                default:
                    throw wrong(BlastPlanner.SYNTAX);
            }
        }

        private void near() throws Wrong {
            room(world.neighbours.size(), 8);
            at++;
            Set<String> used = new HashSet<>();
            world.neighbours.forEach(n -> used.add(n.name));
            Place p = new Place();
            p.name = name(used);
            p.values = new int[] {number(0, 999), number(0, 999), number(0, 99999)};
            while (numberNext()) {
                room(p.windows.size(), 4);
                int first = number(0, 1439);
                literal("to");
                p.windows.add(new int[] {first, number(first + 1, 1440)});
            }
            world.neighbours.add(p);
        }

        private void road() throws Wrong {
            room(world.roads.size(), 6);
            at++;
            Set<String> used = new HashSet<>();
            world.roads.forEach(r -> used.add(r.name));
            Place p = new Place();
            p.name = name(used);
            p.values = new int[] {number(0, 999), number(0, 999), number(0, 999), number(0, 999)};
            world.roads.add(p);
        }

        private void blast() throws Wrong {
            room(world.blasts.size(), 6);
            at++;
            Set<String> used = new HashSet<>();
            world.blasts.forEach(b -> used.add(b.name));
            Shot b = new Shot();
            b.name = name(used);
            b.x = number(0, 999);
            b.y = number(0, 999);
            b.radius = number(1, 500);
            do {
                room(b.charges.size(), 12);
                int size = number(1, 999);
                literal("at");
                b.charges.add(new int[] {size, number(0, 9999)});
            } while (numberNext());
            world.blasts.add(b);
        }
    }

    // ---- what the text describes

    int blastCount() {
        return w.blasts.size();
    }

    int neighbourCount() {
        return w.neighbours.size();
    }

    int roadCount() {
        return w.roads.size();
    }

    private List<Integer> starts() {
        List<Integer> starts = new ArrayList<>();
        for (int m = w.day[0]; m <= w.day[1]; m += w.step) {
            starts.add(m);
        }
        return starts;
    }

    int startCount() {
        return starts().size();
    }

    private Shot shot(int blast) {
        need(blast >= 0 && blast < w.blasts.size());
        return w.blasts.get(blast);
    }

    private Place neighbour(int neighbour) {
        need(neighbour >= 0 && neighbour < w.neighbours.size());
        return w.neighbours.get(neighbour);
    }

    private Place road(int road) {
        need(road >= 0 && road < w.roads.size());
        return w.roads.get(road);
    }

    private static void need(boolean exists) {
        if (!exists) {
            throw new IndexOutOfBoundsException();
        }
    }

    private static void range(int value, int least, int most) {
        if (value < least || value > most) {
            throw new IllegalArgumentException();
        }
    }

    private static void state(boolean right) {
        if (!right) {
            throw new IllegalStateException();
        }
    }

    int chargeCount(int blast) {
        return shot(blast).charges.size();
    }

    int chargeSize(int blast, int charge) {
        Shot b = shot(blast);
        need(charge >= 0 && charge < b.charges.size());
        return b.charges.get(charge)[0];
    }

    int delay(int blast, int charge) {
        Shot b = shot(blast);
        need(charge >= 0 && charge < b.charges.size());
        return b.charges.get(charge)[1];
    }

    int totalSize(int blast) {
        return shot(blast).charges.stream().mapToInt(c -> c[0]).sum();
    }

    int delaySpan(int blast) {
        int[] delays = shot(blast).charges.stream().mapToInt(c -> c[1]).sorted().toArray();
        return delays[delays.length - 1] - delays[0];
    }

    // ---- vibration

    private static int sumAt(Shot b, int d) {
        return b.charges.stream().filter(c -> c[1] >= d && c[1] <= d + 7).mapToInt(c -> c[0]).sum();
    }

    private static int window(Shot b) {
        return b.charges.stream().mapToInt(c -> sumAt(b, c[1])).max().getAsInt();
    }

    int windowSize(int blast) {
        return window(shot(blast));
    }

    int windowStart(int blast) {
        Shot b = shot(blast);
        return b.charges.stream().mapToInt(c -> c[1]).filter(d -> sumAt(b, d) == window(b)).min().getAsInt();
    }

    private static int square(Shot b, Place n) {
        int dx = n.values[0] - b.x;
        int dy = n.values[1] - b.y;
        return dx * dx + dy * dy;
    }

    private static int shaking(Shot b, Place n) {
        return 1000 * window(b) / (square(b, n) + 1);
    }

    int vibration(int blast, int neighbour) {
        return shaking(shot(blast), neighbour(neighbour));
    }

    int mostShaken(int blast) {
        Shot b = shot(blast);
        int best = NONE;
        for (int n = w.neighbours.size() - 1; n >= 0; n--) {
            if (best == NONE || shaking(b, w.neighbours.get(n)) >= shaking(b, w.neighbours.get(best))) {
                best = n;
            }
        }
        return best;
    }

    private int strong(Shot b) {
        int set = 0;
        for (int n = 0; n < w.neighbours.size(); n++) {
            set |= shaking(b, w.neighbours.get(n)) > w.neighbours.get(n).values[2] ? 1 << n : 0;
        }
        return set;
    }

    int tooStrongAt(int blast) {
        return strong(shot(blast));
    }

    private static Shot spread(Shot b, int gap) {
        Shot c = b.copy();
        for (int i = 0; i < c.charges.size(); i++) {
            c.charges.get(i)[1] = i * gap;
        }
        return c;
    }

    int neededGap(int blast, int neighbour) {
        Shot b = shot(blast);
        Place n = neighbour(neighbour);
        for (int gap = 0; gap <= 200; gap++) {
            if (shaking(spread(b, gap), n) <= n.values[2]) {
                return gap;
            }
        }
        return NONE;
    }

    int vibrationIfGap(int blast, int neighbour, int gap) {
        Shot b = shot(blast);
        Place n = neighbour(neighbour);
        range(gap, 0, 800);
        return shaking(spread(b, gap), n);
    }

    // ---- roads, quiet windows, dust

    private static boolean closing(Shot b, Place r, int radius) {
        long ax = r.values[0] - b.x;
        long ay = r.values[1] - b.y;
        long dx = r.values[2] - r.values[0];
        long dy = r.values[3] - r.values[1];
        long reach = (long) radius * radius;
        // the squared distance of the point at part t of the line is c + 2 b t + a t t
        long a = dx * dx + dy * dy;
        long half = ax * dx + ay * dy;
        long c = ax * ax + ay * ay;
        if (c <= reach || a + 2 * half + c <= reach) {
            return true;
        }
        return a > 0 && half < 0 && -half < a && c * a - half * half <= reach * a;
    }

    boolean closes(int blast, int road) {
        Shot b = shot(blast);
        return closing(b, road(road), b.radius);
    }

    private int roadsOf(Shot b) {
        int set = 0;
        for (int r = 0; r < w.roads.size(); r++) {
            set |= closing(b, w.roads.get(r), b.radius) ? 1 << r : 0;
        }
        return set;
    }

    int closedBy(int blast) {
        return roadsOf(shot(blast));
    }

    private static boolean quiet(Place n, int minute) {
        return n.windows.stream().anyMatch(q -> minute >= q[0] && minute <= q[1] - 1);
    }

    boolean isQuiet(int neighbour, int minute) {
        return quiet(neighbour(neighbour), minute);
    }

    private int dusty(Shot b, int hour) {
        int[][] steps = {{0, -1}, {1, -1}, {1, 0}, {1, 1}, {0, 1}, {-1, 1}, {-1, 0}, {-1, -1}};
        int[] wind = w.winds[hour];
        int set = 0;
        for (int i = 0; wind != null && i < w.neighbours.size(); i++) {
            Place n = w.neighbours.get(i);
            int dx = n.values[0] - b.x;
            int dy = n.values[1] - b.y;
            int wx = steps[wind[0]][0];
            int wy = steps[wind[0]][1];
            int dot = dx * wx + dy * wy;
            int cross = Math.abs(dx * wy - dy * wx);
            set |= dot > 0 && cross <= dot && square(b, n) <= 50 * wind[1] * 50 * wind[1] ? 1 << i : 0;
        }
        return set;
    }

    int dustAt(int blast, int hour) {
        Shot b = shot(blast);
        range(hour, 0, 23);
        return dusty(b, hour);
    }

    int neededRadius(int blast, int road) {
        Shot b = shot(blast);
        Place r = road(road);
        int radius = 0;
        while (!closing(b, r, radius)) {
            radius++;
        }
        return radius;
    }

    int quietMinutes(int neighbour) {
        Place n = neighbour(neighbour);
        int count = 0;
        for (int m = 0; m < 1440; m++) {
            count += quiet(n, m) ? 1 : 0;
        }
        return count;
    }

    int dustHours(int blast) {
        Shot b = shot(blast);
        int set = 0;
        for (int h = 0; h < 24; h++) {
            set |= dusty(b, h) != 0 ? 1 << h : 0;
        }
        return set;
    }

    // ---- times

    int timeOf(int blast) {
        return shot(blast).time;
    }

    boolean isFired(int blast) {
        return shot(blast).fired;
    }

    private int against(Shot b, int minute) {
        if (minute < w.day[0] || minute > w.day[1]) {
            return BlastPlanner.OUT_OF_HOURS;
        }
        if (strong(b) != 0) {
            return BlastPlanner.VIBRATION;
        }
        if (w.neighbours.stream().anyMatch(n -> quiet(n, minute) && square(b, n) <= 9 * b.radius * b.radius)) {
            return BlastPlanner.QUIET;
        }
        if (dusty(b, minute / 60) != 0) {
            return BlastPlanner.DUST;
        }
        return apart(b, minute) ? BlastPlanner.ALLOWED : BlastPlanner.CROWDED;
    }

    private boolean apart(Shot b, int minute) {
        return w.blasts.stream().noneMatch(o -> o != b && o.time != NONE && Math.abs(o.time - minute) < w.space);
    }

    int reason(int blast, int minute) {
        Shot b = shot(blast);
        range(minute, 0, 1439);
        return against(b, minute);
    }

    int earliest(int blast, int from) {
        Shot b = shot(blast);
        range(from, 0, 1439);
        return starts().stream().filter(m -> m >= from && against(b, m) == 0).findFirst().orElse(NONE);
    }

    int latest(int blast, int to) {
        Shot b = shot(blast);
        range(to, 0, 1439);
        return starts().stream().filter(m -> m <= to && against(b, m) == 0).reduce((p, q) -> q).orElse(NONE);
    }

    int reasonCount(int blast, int reason) {
        Shot b = shot(blast);
        range(reason, 0, 5);
        return (int) starts().stream().filter(m -> against(b, m) == reason).count();
    }

    int longestAllowed(int blast) {
        Shot b = shot(blast);
        StringBuilder row = new StringBuilder();
        starts().forEach(m -> row.append(against(b, m) == 0 ? 'x' : ' '));
        return Arrays.stream(row.toString().split(" ")).mapToInt(String::length).max().orElse(0);
    }

    int allowedCount(int blast) {
        shot(blast);
        return reasonCount(blast, 0);
    }

    int nextBlast(int minute) {
        int best = NONE;
        for (int i = 0; i < w.blasts.size(); i++) {
            Shot b = w.blasts.get(i);
            if (b.time != NONE && !b.fired && b.time >= minute && (best == NONE || b.time < w.blasts.get(best).time)) {
                best = i;
            }
        }
        return best;
    }

    private void record() {
        List<Shot> copy = new ArrayList<>();
        w.blasts.forEach(b -> copy.add(b.copy()));
        undone.push(copy);
        if (undone.size() > 16) {
            undone.removeLast();
        }
    }

    int schedule(int blast, int minute) {
        Shot b = shot(blast);
        range(minute, 0, 1439);
        state(!b.fired && against(b, minute) == 0);
        record();
        int before = b.time;
        b.time = minute;
        return before;
    }

    int cancel(int blast) {
        Shot b = shot(blast);
        state(b.time != NONE && !b.fired);
        record();
        int before = b.time;
        b.time = NONE;
        return before;
    }

    int fire(int blast) {
        Shot b = shot(blast);
        state(b.time != NONE && !b.fired && nextBlast(Integer.MIN_VALUE) == blast);
        record();
        b.fired = true;
        return b.time;
    }

    int retime(int blast, int gap) {
        Shot b = shot(blast);
        range(gap, 0, 800);
        state(!b.fired);
        record();
        b.charges = spread(b, gap).charges;
        return window(b);
    }

    // ---- closed minutes

    private BitSet closed(Place r) {
        BitSet set = new BitSet();
        for (Shot b : w.blasts) {
            if (b.time != NONE && closing(b, r, b.radius)) {
                for (int m = b.time - w.close[0]; m <= b.time + w.close[1] - 1; m++) {
                    if (m >= 0 && m < 1440) {
                        set.set(m);
                    }
                }
            }
        }
        return set;
    }

    int closedMinutes(int road) {
        return closed(road(road)).cardinality();
    }

    int totalClosed() {
        return w.roads.stream().mapToInt(r -> closed(r).cardinality()).sum();
    }

    boolean isClosed(int road, int minute) {
        BitSet set = closed(road(road));
        return minute >= 0 && set.get(minute);
    }

    private int[] run(int road, int k) {
        BitSet set = closed(road(road));
        int at = set.nextSetBit(0);
        for (int i = 0; at >= 0; i++) {
            int end = set.nextClearBit(at);
            if (i == k) {
                return new int[] {at, end - at};
            }
            at = set.nextSetBit(end);
        }
        return new int[] {NONE, NONE};
    }

    int closures(int road) {
        int count = 0;
        while (run(road, count)[0] != NONE) {
            count++;
        }
        return count;
    }

    int closureStart(int road, int k) {
        return run(road, k)[0];
    }

    int closureLength(int road, int k) {
        return run(road, k)[1];
    }

    int openMinutes(int road, int first, int last) {
        BitSet set = closed(road(road));
        range(first, 0, 1439);
        range(last, first, 1439);
        return last - first + 1 - set.get(first, last + 1).cardinality();
    }

    int sharedMinutes(int road, int otherRoad) {
        BitSet set = closed(road(road));
        set.and(closed(road(otherRoad)));
        return set.cardinality();
    }

    int busiestHour() {
        int[] sums = new int[24];
        w.roads.forEach(r -> closed(r).stream().forEach(m -> sums[m / 60]++));
        int best = 0;
        for (int h = 1; h < 24; h++) {
            best = sums[h] > sums[best] ? h : best;
        }
        return sums[best] == 0 ? NONE : best;
    }

    // ---- sirens

    private List<int[]> sirens() {
        List<int[]> all = new ArrayList<>();
        for (int i = 0; i < w.blasts.size(); i++) {
            int t = w.blasts.get(i).time;
            if (t != NONE) {
                all.add(new int[] {t - 10, 0, i});
                all.add(new int[] {t - 1, 1, i});
                all.add(new int[] {t + w.close[1], 2, i});
            }
        }
        all.sort(Arrays::compare);
        return all;
    }

    int sirenCount() {
        return sirens().size();
    }

    private int siren(int k, int part) {
        List<int[]> all = sirens();
        range(k, 0, all.size() - 1);
        return all.get(k)[part];
    }

    int sirenMinute(int k) {
        return siren(k, 0);
    }

    int sirenKind(int k) {
        return siren(k, 1);
    }

    int sirenBlast(int k) {
        return siren(k, 2);
    }

    // ---- plans

    private int bestLength;
    private List<Integer> bestTimes;

    private void findPlan() {
        List<Shot> open = new ArrayList<>();
        w.blasts.stream().filter(b -> b.time == NONE).forEach(open::add);
        state(open.size() <= 4 && starts().size() <= 12);
        bestLength = NONE;
        bestTimes = null;
        tryAll(open, 0);
    }

    /** Every combination of start minutes, and all reasons anew when the times stand. */
    private void tryAll(List<Shot> open, int at) {
        if (at < open.size()) {
            for (int m : starts()) {
                open.get(at).time = m;
                tryAll(open, at + 1);
                open.get(at).time = NONE;
            }
            return;
        }
        if (!open.stream().allMatch(b -> apart(b, b.time)) || !open.stream().allMatch(b -> against(b, b.time) == 0)) {
            return;
        }
        int length = totalClosed();
        if (bestTimes == null || length < bestLength) {
            bestLength = length;
            bestTimes = new ArrayList<>();
            w.blasts.forEach(b -> bestTimes.add(b.time));
        }
    }

    int planLength() {
        findPlan();
        return bestLength;
    }

    int planTime(int blast) {
        Shot b = shot(blast);
        findPlan();
        return bestTimes == null ? b.time : bestTimes.get(blast);
    }

    int applyPlan() {
        findPlan();
        state(bestTimes != null);
        record();
        int count = 0;
        for (int i = 0; i < w.blasts.size(); i++) {
            count += w.blasts.get(i).time == NONE ? 1 : 0;
            w.blasts.get(i).time = bestTimes.get(i);
        }
        return count;
    }

    // ---- undo and formatted text

    int undo() {
        if (undone.isEmpty()) {
            return NONE;
        }
        w.blasts = undone.pop();
        return undone.size();
    }

    int undoDepth() {
        return undone.size();
    }

    int format(int blast) {
        Shot b = shot(blast);
        String time = b.time == NONE ? "-" : String.format("%d:%02d", b.time / 60, b.time % 60);
        text = b.name + " " + time + " w" + window(b) + " r" + Integer.bitCount(roadsOf(b)) + (b.fired ? " fired" : "");
        return text.length();
    }

    int formattedByte(int index) {
        return index >= 0 && index < text.length() ? text.charAt(index) : NONE;
    }
}
