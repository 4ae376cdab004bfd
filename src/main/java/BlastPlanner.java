/** A planning system for the blasts of a quarry; README.md says how to use it. */
public final class BlastPlanner {
    public static final int NONE = -1;
    public static final int ALLOWED = 0;
    public static final int OUT_OF_HOURS = 1;
    public static final int VIBRATION = 2;
    public static final int QUIET = 3;
    public static final int DUST = 4;
    public static final int CROWDED = 5;
    public static final int WARNING = 0;
    public static final int FINAL_WARNING = 1;
    public static final int ALL_CLEAR = 2;
    public static final int SYNTAX = 1;
    public static final int BAD_NUMBER = 2;
    public static final int BAD_NAME = 3;
    public static final int TOO_MANY = 4;

    private static final int DAY = 1440;
    private static final int HOUR = 60;
    private static final int HOURS = 24;
    private static final int MOST_BYTES = 800;
    private static final int MOST_NEIGHBOURS = 8;
    private static final int MOST_WINDOWS = 4;
    private static final int MOST_ROADS = 6;
    private static final int MOST_BLASTS = 6;
    private static final int MOST_CHARGES = 12;
    private static final int MOST_COORDINATE = 999;
    private static final int MOST_GAP = 800;
    private static final int MOST_NEEDED_GAP = 200;
    private static final int MOST_NEEDED_RADIUS = 1500;
    private static final int MOST_ACTIONS = 16;
    private static final int MOST_PLANNED = 4;
    private static final int MOST_PLAN_STARTS = 12;
    private static final int WINDOW_REACH = 7;
    private static final int WARNING_LEAD = 10;

    private final Parser parser = new Parser();
    private final History history = new History();
    private final PlanSearch plan = new PlanSearch();
    private final SirenList sirens = new SirenList();
    private final FormattedText formatted = new FormattedText();
    private final MinuteSet minutes = new MinuteSet();
    private final MinuteSet otherMinutes = new MinuteSet();
    private final int[] hourSums = new int[HOURS];
    private Site site = new Site();
    private Site draft = new Site();

    public BlastPlanner() {
    }

    // ---- input

    public int append(int w0, int w1, int w2, int w3, int w4) {
        Tokens tokens = parser.tokens;
        if (!tokens.hasRoom(20)) {
            return NONE;
        }
        tokens.addWord(w0);
        tokens.addWord(w1);
        tokens.addWord(w2);
        tokens.addWord(w3);
        tokens.addWord(w4);
        return tokens.length;
    }

    public boolean truncate(int length) {
        Tokens tokens = parser.tokens;
        if (length < 0 || length > tokens.length) {
            return false;
        }
        tokens.length = length;
        return true;
    }

    public int load() throws IllegalArgumentException {
        boolean correct = parser.parse(draft);
        parser.tokens.length = 0;
        if (!correct) {
            throw new IllegalArgumentException("the text does not match");
        }
        Site replaced = site;
        site = draft;
        draft = replaced;
        site.survey();
        history.clear();
        plan.forget();
        return site.blastTotal;
    }

    public int errorOffset() {
        return parser.tokens.wrongOffset;
    }

    public int errorKind() {
        return parser.tokens.wrongKind;
    }

    // ---- what the text describes

    public int blastCount() {
        return site.blastTotal;
    }

    public int neighbourCount() {
        return site.neighbourTotal;
    }

    public int roadCount() {
        return site.roadTotal;
    }

    public int startCount() {
        return site.startTotal();
    }

    public int chargeCount(int blast) throws IndexOutOfBoundsException {
        return blastAt(blast).charges;
    }

    public int chargeSize(int blast, int charge) throws IndexOutOfBoundsException {
        Blast it = blastAt(blast);
        needCharge(it, charge);
        return it.sizes[charge];
    }

    public int delay(int blast, int charge) throws IndexOutOfBoundsException {
        Blast it = blastAt(blast);
        needCharge(it, charge);
        return it.delays[charge];
    }

    public int totalSize(int blast) throws IndexOutOfBoundsException {
        return blastAt(blast).sumOfSizes();
    }

    public int delaySpan(int blast) throws IndexOutOfBoundsException {
        return blastAt(blast).spanOfDelays();
    }

    // ---- vibration

    public int windowSize(int blast) throws IndexOutOfBoundsException {
        return blastAt(blast).windowSum;
    }

    public int windowStart(int blast) throws IndexOutOfBoundsException {
        return blastAt(blast).windowFirst;
    }

    public int vibration(int blast, int neighbour) throws IndexOutOfBoundsException {
        Blast it = blastAt(blast);
        neighbourAt(neighbour);
        return it.shakes(neighbour, it.windowSum);
    }

    public int mostShaken(int blast) throws IndexOutOfBoundsException {
        Blast it = blastAt(blast);
        int found = NONE;
        int greatest = NONE;
        for (int i = 0; i < site.neighbourTotal; i++) {
            int here = it.shakes(i, it.windowSum);
            if (here > greatest) {
                greatest = here;
                found = i;
            }
        }
        return found;
    }

    public int tooStrongAt(int blast) throws IndexOutOfBoundsException {
        return blastAt(blast).tooStrong;
    }

    public int neededGap(int blast, int neighbour) throws IndexOutOfBoundsException {
        Blast it = blastAt(blast);
        int limit = neighbourAt(neighbour).limit;
        for (int gap = 0; gap <= MOST_NEEDED_GAP; gap++) {
            if (it.shakes(neighbour, it.windowIfGap(gap)) <= limit) {
                return gap;
            }
        }
        return NONE;
    }

    public int vibrationIfGap(int blast, int neighbour, int gap)
            throws IndexOutOfBoundsException, IllegalArgumentException {
        Blast it = blastAt(blast);
        neighbourAt(neighbour);
        needRange(gap, 0, MOST_GAP);
        return it.shakes(neighbour, it.windowIfGap(gap));
    }

    // ---- roads, quiet windows, dust

    public boolean closes(int blast, int road) throws IndexOutOfBoundsException {
        Blast it = blastAt(blast);
        roadAt(road);
        return it.closesRoad(road);
    }

    public int closedBy(int blast) throws IndexOutOfBoundsException {
        return blastAt(blast).closedRoads;
    }

    public boolean isQuiet(int neighbour, int minute) throws IndexOutOfBoundsException {
        return neighbourAt(neighbour).quietAt(minute);
    }

    public int dustAt(int blast, int hour) throws IndexOutOfBoundsException, IllegalArgumentException {
        Blast it = blastAt(blast);
        needRange(hour, 0, HOURS - 1);
        return it.dusty[hour];
    }

    public int neededRadius(int blast, int road) throws IndexOutOfBoundsException {
        Blast it = blastAt(blast);
        Road line = roadAt(road);
        int low = 0;
        int high = MOST_NEEDED_RADIUS;
        for (int halvings = 0; halvings < 16 && low < high; halvings++) {
            int middle = (low + high) / 2;
            if (line.comesWithin(it.x, it.y, middle)) {
                high = middle;
            } else {
                low = middle + 1;
            }
        }
        return low;
    }

    public int quietMinutes(int neighbour) throws IndexOutOfBoundsException {
        Neighbour it = neighbourAt(neighbour);
        minutes.clear();
        for (int i = 0; i < it.windows; i++) {
            minutes.add(it.quietFirst[i], it.quietEnd[i]);
        }
        return minutes.size();
    }

    public int dustHours(int blast) throws IndexOutOfBoundsException {
        Blast it = blastAt(blast);
        int hours = 0;
        for (int hour = 0; hour < HOURS; hour++) {
            if (it.dusty[hour] != 0) {
                hours |= 1 << hour;
            }
        }
        return hours;
    }

    // ---- times

    public int timeOf(int blast) throws IndexOutOfBoundsException {
        needBlast(blast);
        return site.times[blast];
    }

    public boolean isFired(int blast) throws IndexOutOfBoundsException {
        return blastAt(blast).fired;
    }

    public int reason(int blast, int minute) throws IndexOutOfBoundsException, IllegalArgumentException {
        needBlast(blast);
        needRange(minute, 0, DAY - 1);
        return site.reasonAgainst(blast, minute, site.times);
    }

    public int earliest(int blast, int from) throws IndexOutOfBoundsException, IllegalArgumentException {
        needBlast(blast);
        needRange(from, 0, DAY - 1);
        int starts = site.startTotal();
        for (int k = 0; k < starts; k++) {
            int minute = site.startAt(k);
            if (minute >= from && isAllowed(blast, minute)) {
                return minute;
            }
        }
        return NONE;
    }

    public int latest(int blast, int to) throws IndexOutOfBoundsException, IllegalArgumentException {
        needBlast(blast);
        needRange(to, 0, DAY - 1);
        for (int k = site.startTotal() - 1; k >= 0; k--) {
            int minute = site.startAt(k);
            if (minute <= to && isAllowed(blast, minute)) {
                return minute;
            }
        }
        return NONE;
    }

    public int reasonCount(int blast, int reason) throws IndexOutOfBoundsException, IllegalArgumentException {
        needBlast(blast);
        needRange(reason, ALLOWED, CROWDED);
        return startsWithReason(blast, reason);
    }

    public int longestAllowed(int blast) throws IndexOutOfBoundsException {
        needBlast(blast);
        int longest = 0;
        int run = 0;
        int starts = site.startTotal();
        for (int k = 0; k < starts; k++) {
            run = isAllowed(blast, site.startAt(k)) ? run + 1 : 0;
            longest = Math.max(longest, run);
        }
        return longest;
    }

    public int allowedCount(int blast) throws IndexOutOfBoundsException {
        needBlast(blast);
        return startsWithReason(blast, ALLOWED);
    }

    public int nextBlast(int minute) {
        return site.firstScheduled(minute);
    }

    public int schedule(int blast, int minute)
            throws IndexOutOfBoundsException, IllegalArgumentException, IllegalStateException {
        Blast it = blastAt(blast);
        needRange(minute, 0, DAY - 1);
        if (it.fired || !isAllowed(blast, minute)) {
            throw new IllegalStateException("fired, or the minute is not allowed");
        }
        int previous = site.times[blast];
        recordAction();
        site.times[blast] = minute;
        return previous;
    }

    public int cancel(int blast) throws IndexOutOfBoundsException, IllegalStateException {
        needBlast(blast);
        needScheduled(blast);
        int previous = site.times[blast];
        recordAction();
        site.times[blast] = NONE;
        return previous;
    }

    public int fire(int blast) throws IndexOutOfBoundsException, IllegalStateException {
        Blast it = blastAt(blast);
        needScheduled(blast);
        if (site.firstScheduled(0) != blast) {
            throw new IllegalStateException("another blast is fired before");
        }
        recordAction();
        it.fired = true;
        return site.times[blast];
    }

    public int retime(int blast, int gap)
            throws IndexOutOfBoundsException, IllegalArgumentException, IllegalStateException {
        Blast it = blastAt(blast);
        needRange(gap, 0, MOST_GAP);
        if (it.fired) {
            throw new IllegalStateException("the blast is fired");
        }
        recordAction();
        it.spreadDelays(gap);
        site.weigh(it);
        return it.windowSum;
    }

    // ---- closed minutes

    public int closedMinutes(int road) throws IndexOutOfBoundsException {
        roadAt(road);
        site.collectClosed(road, minutes);
        return minutes.size();
    }

    public int totalClosed() {
        return site.closedTotal(minutes);
    }

    public boolean isClosed(int road, int minute) throws IndexOutOfBoundsException {
        roadAt(road);
        site.collectClosed(road, minutes);
        return minutes.contains(minute);
    }

    public int closures(int road) throws IndexOutOfBoundsException {
        roadAt(road);
        site.collectClosed(road, minutes);
        return minutes.runs;
    }

    public int closureStart(int road, int k) throws IndexOutOfBoundsException {
        roadAt(road);
        site.collectClosed(road, minutes);
        return k >= 0 && k < minutes.runs ? minutes.firsts[k] : NONE;
    }

    public int closureLength(int road, int k) throws IndexOutOfBoundsException {
        roadAt(road);
        site.collectClosed(road, minutes);
        return k >= 0 && k < minutes.runs ? minutes.ends[k] - minutes.firsts[k] : NONE;
    }

    public int openMinutes(int road, int first, int last)
            throws IndexOutOfBoundsException, IllegalArgumentException {
        roadAt(road);
        needRange(first, 0, DAY - 1);
        needRange(last, first, DAY - 1);
        site.collectClosed(road, minutes);
        return last + 1 - first - minutes.sizeWithin(first, last + 1);
    }

    public int sharedMinutes(int road, int otherRoad) throws IndexOutOfBoundsException {
        roadAt(road);
        roadAt(otherRoad);
        site.collectClosed(road, minutes);
        site.collectClosed(otherRoad, otherMinutes);
        int shared = 0;
        for (int i = 0; i < minutes.runs; i++) {
            shared += otherMinutes.sizeWithin(minutes.firsts[i], minutes.ends[i]);
        }
        return shared;
    }

    public int busiestHour() {
        sumHours();
        int busiest = NONE;
        int greatest = 0;
        for (int hour = 0; hour < HOURS; hour++) {
            if (hourSums[hour] > greatest) {
                greatest = hourSums[hour];
                busiest = hour;
            }
        }
        return busiest;
    }

    // ---- sirens

    public int sirenCount() {
        sirens.gather(site);
        return sirens.total;
    }

    public int sirenMinute(int k) throws IllegalArgumentException {
        return SirenList.minuteOf(sirenAt(k));
    }

    public int sirenKind(int k) throws IllegalArgumentException {
        return SirenList.kindOf(sirenAt(k));
    }

    public int sirenBlast(int k) throws IllegalArgumentException {
        return SirenList.blastOf(sirenAt(k));
    }

    // ---- plans

    public int planLength() throws IllegalStateException {
        findPlan();
        return plan.bestLength;
    }

    public int planTime(int blast) throws IndexOutOfBoundsException, IllegalStateException {
        needBlast(blast);
        findPlan();
        return plan.bestTimes[blast];
    }

    public int applyPlan() throws IllegalStateException {
        findPlan();
        if (plan.bestLength == NONE) {
            throw new IllegalStateException("there is no plan");
        }
        int opened = site.openTotal();
        recordAction();
        for (int i = 0; i < site.blastTotal; i++) {
            site.times[i] = plan.bestTimes[i];
        }
        return opened;
    }

    // ---- undo and formatted text

    public int undo() {
        if (history.depth == 0) {
            return NONE;
        }
        history.restore(site);
        plan.forget();
        return history.depth;
    }

    public int undoDepth() {
        return history.depth;
    }

    public int format(int blast) throws IndexOutOfBoundsException {
        Blast it = blastAt(blast);
        formatted.write(site.blastNames[blast], site.times[blast], it);
        return formatted.length;
    }

    public int formattedByte(int index) {
        return index >= 0 && index < formatted.length ? formatted.bytes[index] : NONE;
    }

    // ---- checks of what a caller gives

    private void needBlast(int blast) {
        if (blast < 0 || blast >= site.blastTotal) {
            throw new IndexOutOfBoundsException("no such blast");
        }
    }

    private Blast blastAt(int blast) {
        needBlast(blast);
        return site.blasts[blast];
    }

    private Neighbour neighbourAt(int neighbour) {
        if (neighbour < 0 || neighbour >= site.neighbourTotal) {
            throw new IndexOutOfBoundsException("no such neighbour");
        }
        return site.neighbours[neighbour];
    }

    private Road roadAt(int road) {
        if (road < 0 || road >= site.roadTotal) {
            throw new IndexOutOfBoundsException("no such road");
        }
        return site.roads[road];
    }

    private void needCharge(Blast blast, int charge) {
        if (charge < 0 || charge >= blast.charges) {
            throw new IndexOutOfBoundsException("no such charge");
        }
    }

    private void needRange(int value, int least, int most) {
        if (value < least || value > most) {
            throw new IllegalArgumentException("out of range");
        }
    }

    private void needScheduled(int blast) {
        if (site.times[blast] == NONE || site.blasts[blast].fired) {
            throw new IllegalStateException("the blast is open or fired");
        }
    }

    private int sirenAt(int k) {
        sirens.gather(site);
        if (k < 0 || k >= sirens.total) {
            throw new IllegalArgumentException("no such siren");
        }
        return sirens.keys[k];
    }

    // ---- what several calls share

    private boolean isAllowed(int blast, int minute) {
        return site.reasonAgainst(blast, minute, site.times) == ALLOWED;
    }

    private int startsWithReason(int blast, int reason) {
        int count = 0;
        int starts = site.startTotal();
        for (int k = 0; k < starts; k++) {
            if (site.reasonAgainst(blast, site.startAt(k), site.times) == reason) {
                count++;
            }
        }
        return count;
    }

    /** Keeps the blasts as they are, for undo; to be called before an action changes them. */
    private void recordAction() {
        history.record(site);
        plan.forget();
    }

    private void sumHours() {
        for (int hour = 0; hour < HOURS; hour++) {
            hourSums[hour] = 0;
        }
        for (int road = 0; road < site.roadTotal; road++) {
            site.collectClosed(road, minutes);
            for (int hour = 0; hour < HOURS; hour++) {
                hourSums[hour] += minutes.sizeWithin(hour * HOUR, hour * HOUR + HOUR);
            }
        }
    }

    private void findPlan() {
        if (site.openTotal() > MOST_PLANNED || site.startTotal() > MOST_PLAN_STARTS) {
            throw new IllegalStateException("too many open blasts or start minutes");
        }
        if (!plan.known) {
            plan.search(site, site.closedTotal(minutes));
        }
    }

    private static int squareSum(int dx, int dy) {
        return dx * dx + dy * dy;
    }

    /** Rounded down for the values in use; 0 where a divisor is 0, so that the machine never throws. */
    private static int quotient(int value, int divisor) {
        return divisor == 0 ? 0 : value / divisor;
    }

    /** A neighbour of the quarry. */
    private static final class Neighbour {
        final int[] quietFirst = new int[MOST_WINDOWS];
        final int[] quietEnd = new int[MOST_WINDOWS];
        int x;
        int y;
        int limit;
        int windows;

        void addWindow(int first, int end) {
            if (windows < MOST_WINDOWS) {
                quietFirst[windows] = first;
                quietEnd[windows] = end;
                windows++;
            }
        }

        boolean quietAt(int minute) {
            for (int i = 0; i < windows; i++) {
                if (minute >= quietFirst[i] && minute < quietEnd[i]) {
                    return true;
                }
            }
            return false;
        }
    }

    /** A road: the straight line from one end to the other. */
    private static final class Road {
        int x1;
        int y1;
        int x2;
        int y2;

        boolean comesWithin(int x, int y, int radius) {
            int reach = radius * radius;
            int alongX = x2 - x1;
            int alongY = y2 - y1;
            int length = squareSum(alongX, alongY);
            int shadow = (x - x1) * alongX + (y - y1) * alongY;
            if (shadow <= 0) {
                return squareSum(x - x1, y - y1) <= reach;
            }
            if (shadow >= length) {
                return squareSum(x - x2, y - y2) <= reach;
            }
            // Both sides are multiplied by the road's squared length, to stay exact without fractions.
            long area = (long) (x - x1) * alongY - (long) (y - y1) * alongX;
            return area * area <= (long) reach * length;
        }
    }

    /** A blast; its time stands in the times of the site, so that a plan can try others. */
    private static final class Blast {
        final int[] sizes = new int[MOST_CHARGES];
        final int[] delays = new int[MOST_CHARGES];
        final int[] squaredDistances = new int[MOST_NEIGHBOURS];
        final int[] dusty = new int[HOURS];
        int x;
        int y;
        int radius;
        int charges;
        int windowSum;
        int windowFirst;
        int tooStrong;
        int closedRoads;
        int heardBy;
        boolean fired;

        void addCharge(int size, int delay) {
            if (charges < MOST_CHARGES) {
                sizes[charges] = size;
                delays[charges] = delay;
                charges++;
            }
        }

        void spreadDelays(int gap) {
            for (int i = 0; i < charges; i++) {
                delays[i] = i * gap;
            }
        }

        int sumOfSizes() {
            int sum = 0;
            for (int i = 0; i < charges; i++) {
                sum += sizes[i];
            }
            return sum;
        }

        int spanOfDelays() {
            int least = delays[0];
            int greatest = delays[0];
            for (int i = 1; i < charges; i++) {
                least = Math.min(least, delays[i]);
                greatest = Math.max(greatest, delays[i]);
            }
            return greatest - least;
        }

        int sumFromDelay(int first) {
            int sum = 0;
            for (int i = 0; i < charges; i++) {
                if (delays[i] >= first && delays[i] <= first + WINDOW_REACH) {
                    sum += sizes[i];
                }
            }
            return sum;
        }

        void measureWindow() {
            windowSum = 0;
            windowFirst = 0;
            for (int i = 0; i < charges; i++) {
                int sum = sumFromDelay(delays[i]);
                if (sum > windowSum || sum == windowSum && delays[i] < windowFirst) {
                    windowSum = sum;
                    windowFirst = delays[i];
                }
            }
        }

        /** With a gap, the charges of a window are as many neighbouring ones as its reach takes in. */
        int windowIfGap(int gap) {
            int together = gap == 0 ? charges : quotient(WINDOW_REACH, gap) + 1;
            int greatest = 0;
            for (int first = 0; first < charges; first++) {
                int sum = 0;
                for (int i = first; i < charges && i < first + together; i++) {
                    sum += sizes[i];
                }
                greatest = Math.max(greatest, sum);
            }
            return greatest;
        }

        int shakes(int neighbour, int size) {
            return quotient(1000 * size, squaredDistances[neighbour] + 1);
        }

        boolean closesRoad(int road) {
            return (closedRoads >> road & 1) != 0;
        }
    }

    /** All that a text describes, and the times of the blasts. */
    private static final class Site {
        private static final int[] WIND_X = {0, 1, 1, 1, 0, -1, -1, -1};
        private static final int[] WIND_Y = {-1, -1, 0, 1, 1, 1, 0, -1};
        final Neighbour[] neighbours = new Neighbour[MOST_NEIGHBOURS];
        final Road[] roads = new Road[MOST_ROADS];
        final Blast[] blasts = new Blast[MOST_BLASTS];
        final int[] neighbourNames = new int[MOST_NEIGHBOURS];
        final int[] roadNames = new int[MOST_ROADS];
        final int[] blastNames = new int[MOST_BLASTS];
        final int[] times = new int[MOST_BLASTS];
        final int[] windDirections = new int[HOURS];
        final int[] windSpeeds = new int[HOURS];
        int neighbourTotal;
        int roadTotal;
        int blastTotal;
        int dayFirst;
        int dayLast;
        int step;
        int before;
        int after;
        int spacing;

        Site() {
            for (int i = 0; i < MOST_NEIGHBOURS; i++) {
                neighbours[i] = new Neighbour();
            }
            for (int i = 0; i < MOST_ROADS; i++) {
                roads[i] = new Road();
            }
            for (int i = 0; i < MOST_BLASTS; i++) {
                blasts[i] = new Blast();
            }
            reset();
        }

        void reset() {
            neighbourTotal = 0;
            roadTotal = 0;
            blastTotal = 0;
            dayFirst = 480;
            dayLast = 960;
            step = 60;
            before = 10;
            after = 5;
            spacing = 15;
            for (int hour = 0; hour < HOURS; hour++) {
                windDirections[hour] = NONE;
                windSpeeds[hour] = 0;
            }
            for (int i = 0; i < MOST_BLASTS; i++) {
                times[i] = NONE;
            }
        }

        /** Works out what no later call changes, when the whole text is known. */
        void survey() {
            for (int i = 0; i < blastTotal; i++) {
                Blast blast = blasts[i];
                measureNeighbours(blast);
                measureRoads(blast);
                for (int hour = 0; hour < HOURS; hour++) {
                    blast.dusty[hour] = neighboursInDust(blast, hour);
                }
                weigh(blast);
            }
        }

        private void measureNeighbours(Blast blast) {
            int hearing = 3 * blast.radius;
            blast.heardBy = 0;
            for (int i = 0; i < neighbourTotal; i++) {
                int squared = squareSum(neighbours[i].x - blast.x, neighbours[i].y - blast.y);
                blast.squaredDistances[i] = squared;
                if (squared <= hearing * hearing) {
                    blast.heardBy |= 1 << i;
                }
            }
        }

        private void measureRoads(Blast blast) {
            blast.closedRoads = 0;
            for (int i = 0; i < roadTotal; i++) {
                if (roads[i].comesWithin(blast.x, blast.y, blast.radius)) {
                    blast.closedRoads |= 1 << i;
                }
            }
        }

        private int neighboursInDust(Blast blast, int hour) {
            int direction = windDirections[hour];
            if (direction < 0 || direction >= WIND_X.length) {
                return 0;
            }
            int reach = 50 * windSpeeds[hour];
            int set = 0;
            for (int i = 0; i < neighbourTotal; i++) {
                int dx = neighbours[i].x - blast.x;
                int dy = neighbours[i].y - blast.y;
                int ahead = dx * WIND_X[direction] + dy * WIND_Y[direction];
                int aside = dx * WIND_Y[direction] - dy * WIND_X[direction];
                if (ahead > 0 && Math.abs(aside) <= ahead && squareSum(dx, dy) <= reach * reach) {
                    set |= 1 << i;
                }
            }
            return set;
        }

        /** Works out what depends on the delays of the blast. */
        void weigh(Blast blast) {
            blast.measureWindow();
            blast.tooStrong = 0;
            for (int i = 0; i < neighbourTotal; i++) {
                if (blast.shakes(i, blast.windowSum) > neighbours[i].limit) {
                    blast.tooStrong |= 1 << i;
                }
            }
        }

        int startTotal() {
            return quotient(dayLast - dayFirst, step) + 1;
        }

        int startAt(int k) {
            return dayFirst + k * step;
        }

        int openTotal() {
            int count = 0;
            for (int i = 0; i < blastTotal; i++) {
                if (times[i] == NONE) {
                    count++;
                }
            }
            return count;
        }

        /** The reason against a minute of the day, if the blasts had the times that are given. */
        int reasonAgainst(int blast, int minute, int[] givenTimes) {
            if (minute < dayFirst || minute > dayLast) {
                return OUT_OF_HOURS;
            }
            Blast it = blasts[blast];
            if (it.tooStrong != 0) {
                return VIBRATION;
            }
            if (quietFor(it, minute)) {
                return QUIET;
            }
            if (it.dusty[minute / HOUR] != 0) {
                return DUST;
            }
            return crowded(blast, minute, givenTimes) ? CROWDED : ALLOWED;
        }

        private boolean quietFor(Blast blast, int minute) {
            for (int i = 0; i < neighbourTotal; i++) {
                if ((blast.heardBy >> i & 1) != 0 && neighbours[i].quietAt(minute)) {
                    return true;
                }
            }
            return false;
        }

        private boolean crowded(int blast, int minute, int[] givenTimes) {
            for (int i = 0; i < blastTotal; i++) {
                if (i != blast && givenTimes[i] != NONE && Math.abs(givenTimes[i] - minute) < spacing) {
                    return true;
                }
            }
            return false;
        }

        int firstScheduled(int minute) {
            int found = NONE;
            for (int i = 0; i < blastTotal; i++) {
                boolean candidate = times[i] != NONE && !blasts[i].fired && times[i] >= minute;
                if (candidate && (found == NONE || times[i] < times[found])) {
                    found = i;
                }
            }
            return found;
        }

        int closingFirst(int time) {
            return time > before ? time - before : 0;
        }

        int closingEnd(int time) {
            return time + after < DAY ? time + after : DAY;
        }

        void collectClosed(int road, MinuteSet set) {
            set.clear();
            for (int i = 0; i < blastTotal; i++) {
                if (times[i] != NONE && blasts[i].closesRoad(road)) {
                    set.add(closingFirst(times[i]), closingEnd(times[i]));
                }
            }
        }

        int closedTotal(MinuteSet scratch) {
            int sum = 0;
            for (int road = 0; road < roadTotal; road++) {
                collectClosed(road, scratch);
                sum += scratch.size();
            }
            return sum;
        }
    }

    /** Minutes of the day as runs in the order of time, none of which touches another one. */
    private static final class MinuteSet {
        private static final int MOST_RUNS = 8;
        final int[] firsts = new int[MOST_RUNS];
        final int[] ends = new int[MOST_RUNS];
        int runs;

        void clear() {
            runs = 0;
        }

        /** Adds the minutes from first to end - 1. */
        void add(int first, int end) {
            if (first >= end) {
                return;
            }
            int low = first;
            int high = end;
            int kept = 0;
            for (int i = 0; i < runs; i++) {
                if (ends[i] < low || firsts[i] > high) {
                    firsts[kept] = firsts[i];
                    ends[kept] = ends[i];
                    kept++;
                } else {
                    low = Math.min(low, firsts[i]);
                    high = Math.max(high, ends[i]);
                }
            }
            runs = kept;
            insert(low, high);
        }

        private void insert(int first, int end) {
            if (runs >= MOST_RUNS) {
                return;
            }
            int place = runs;
            while (place > 0 && firsts[place - 1] > first) {
                firsts[place] = firsts[place - 1];
                ends[place] = ends[place - 1];
                place--;
            }
            firsts[place] = first;
            ends[place] = end;
            runs++;
        }

        boolean contains(int minute) {
            for (int i = 0; i < runs; i++) {
                if (minute >= firsts[i] && minute < ends[i]) {
                    return true;
                }
            }
            return false;
        }

        int size() {
            return sizeWithin(0, DAY);
        }

        /** How many of the minutes from first to end - 1 are in the set. */
        int sizeWithin(int first, int end) {
            int sum = 0;
            for (int i = 0; i < runs; i++) {
                sum += Math.max(0, Math.min(end, ends[i]) - Math.max(first, firsts[i]));
            }
            return sum;
        }
    }

    /** The sirens in their order, each as one number that sorts by minute, kind and blast. */
    private static final class SirenList {
        final int[] keys = new int[3 * MOST_BLASTS];
        int total;

        void gather(Site site) {
            total = 0;
            for (int i = 0; i < site.blastTotal; i++) {
                int time = site.times[i];
                if (time != NONE) {
                    insert(time - WARNING_LEAD, WARNING, i);
                    insert(time - 1, FINAL_WARNING, i);
                    insert(time + site.after, ALL_CLEAR, i);
                }
            }
        }

        private void insert(int minute, int kind, int blast) {
            if (total >= keys.length) {
                return;
            }
            // The lead is added because a minute may be negative, which would spoil the parts of the key.
            int key = ((minute + WARNING_LEAD) * 4 + kind) * 8 + blast;
            int place = total;
            while (place > 0 && keys[place - 1] > key) {
                keys[place] = keys[place - 1];
                place--;
            }
            keys[place] = key;
            total++;
        }

        static int minuteOf(int key) {
            return key / 32 - WARNING_LEAD;
        }

        static int kindOf(int key) {
            return key / 8 % 4;
        }

        static int blastOf(int key) {
            return key % 8;
        }
    }

    /** Finds the best plan, and keeps it until the blasts change. */
    private static final class PlanSearch {
        final int[] open = new int[MOST_PLANNED];
        final int[] trial = new int[MOST_BLASTS];
        final int[] bestTimes = new int[MOST_BLASTS];
        int openTotal;
        int bestLength;
        boolean known;

        void forget() {
            known = false;
        }

        void search(Site site, int presentLength) {
            openTotal = 0;
            for (int i = 0; i < site.blastTotal; i++) {
                trial[i] = site.times[i];
                bestTimes[i] = site.times[i];
                if (trial[i] == NONE && openTotal < MOST_PLANNED) {
                    open[openTotal] = i;
                    openTotal++;
                }
            }
            bestLength = NONE;
            place(this, site, 0, presentLength);
            known = true;
        }

        /**
         * Tries all start minutes for the open blasts from this slot on. More blasts never close fewer
         * minutes, so a length that is not below the best one is given up; what is found first stays,
         * which makes the times the lexicographically smallest.
         */
        private static void place(PlanSearch plan, Site site, int slot, int length) {
            if (plan.bestLength != NONE && length >= plan.bestLength) {
                return;
            }
            if (slot >= plan.openTotal || slot >= MOST_PLANNED) {
                plan.keep(site, length);
                return;
            }
            int blast = plan.open[slot];
            int starts = site.startTotal();
            for (int k = 0; k < starts; k++) {
                int minute = site.startAt(k);
                if (site.reasonAgainst(blast, minute, plan.trial) == ALLOWED) {
                    int longer = length + plan.newlyClosed(site, blast, minute);
                    plan.trial[blast] = minute;
                    place(plan, site, slot + 1, longer);
                    plan.trial[blast] = NONE;
                }
            }
        }

        private void keep(Site site, int length) {
            bestLength = length;
            for (int i = 0; i < site.blastTotal; i++) {
                bestTimes[i] = trial[i];
            }
        }

        private int newlyClosed(Site site, int blast, int minute) {
            int sum = 0;
            for (int road = 0; road < site.roadTotal; road++) {
                if (site.blasts[blast].closesRoad(road)) {
                    sum += newlyClosedOf(site, road, minute);
                }
            }
            return sum;
        }

        /**
         * All closings are equally long, so those of earlier blasts cover the beginning of this one
         * and those of later blasts its end.
         */
        private int newlyClosedOf(Site site, int road, int minute) {
            int first = site.closingFirst(minute);
            int end = site.closingEnd(minute);
            for (int i = 0; i < site.blastTotal; i++) {
                if (trial[i] == NONE || !site.blasts[i].closesRoad(road)) {
                    continue;
                }
                if (trial[i] <= minute) {
                    first = Math.max(first, site.closingEnd(trial[i]));
                } else {
                    end = Math.min(end, site.closingFirst(trial[i]));
                }
            }
            return Math.max(0, end - first);
        }
    }

    /** The blasts as they were before each of the latest actions. */
    private static final class History {
        private static final int BLAST_ROW = 2 + MOST_CHARGES;
        final int[][] rows = new int[MOST_ACTIONS][MOST_BLASTS * BLAST_ROW];
        int next;
        int depth;

        void clear() {
            depth = 0;
        }

        void record(Site site) {
            int[] row = rows[next];
            for (int i = 0; i < site.blastTotal; i++) {
                Blast blast = site.blasts[i];
                int at = i * BLAST_ROW;
                row[at] = site.times[i];
                row[at + 1] = blast.fired ? 1 : 0;
                for (int c = 0; c < MOST_CHARGES; c++) {
                    row[at + 2 + c] = blast.delays[c];
                }
            }
            next = (next + 1) % MOST_ACTIONS;
            depth = Math.min(depth + 1, MOST_ACTIONS);
        }

        void restore(Site site) {
            next = (next + MOST_ACTIONS - 1) % MOST_ACTIONS;
            depth--;
            int[] row = rows[next];
            for (int i = 0; i < site.blastTotal; i++) {
                Blast blast = site.blasts[i];
                int at = i * BLAST_ROW;
                site.times[i] = row[at];
                blast.fired = row[at + 1] != 0;
                for (int c = 0; c < MOST_CHARGES; c++) {
                    blast.delays[c] = row[at + 2 + c];
                }
                site.weigh(blast);
            }
        }
    }

    /** The formatted text of a blast. */
    private static final class FormattedText {
        final byte[] bytes = new byte[40];
        int length;

        void write(int name, int time, Blast blast) {
            length = 0;
            addName(name);
            add(' ');
            addTime(time);
            add(' ');
            add('w');
            addNumber(blast.windowSum);
            add(' ');
            add('r');
            addNumber(Integer.bitCount(blast.closedRoads));
            if (blast.fired) {
                addText(" fired");
            }
        }

        private void add(int sign) {
            if (length < bytes.length) {
                bytes[length] = (byte) sign;
                length++;
            }
        }

        private void addText(String text) {
            for (int i = 0; i < text.length(); i++) {
                add(text.charAt(i));
            }
        }

        private void addName(int name) {
            for (int shift = 25; shift >= 0; shift -= 5) {
                int letter = name >> shift & 31;
                if (letter != 0) {
                    add('a' + letter - 1);
                }
            }
        }

        private void addTime(int time) {
            if (time == NONE) {
                add('-');
                return;
            }
            addNumber(time / HOUR);
            add(':');
            add('0' + time % HOUR / 10);
            add('0' + time % 10);
        }

        private void addNumber(int value) {
            for (int unit = 10000; unit >= 1; unit /= 10) {
                if (value >= unit || unit == 1) {
                    add('0' + value / unit % 10);
                }
            }
        }
    }

    /** The input buffer, read token by token; the first error stays, and no number is read after it. */
    private static final class Tokens {
        private static final int MOST_LETTERS = 6;
        private static final int MOST_DIGITS = 5;
        final byte[] bytes = new byte[MOST_BYTES];
        int length;
        int position;
        int wrongOffset = NONE;
        int wrongKind;

        boolean hasRoom(int more) {
            return length + more <= MOST_BYTES;
        }

        void addWord(int word) {
            for (int shift = 24; shift >= 0 && length < MOST_BYTES; shift -= 8) {
                bytes[length] = (byte) (word >> shift);
                length++;
            }
        }

        void begin() {
            position = 0;
            wrongOffset = NONE;
            wrongKind = 0;
        }

        boolean failed() {
            return wrongKind != 0;
        }

        void fail(int offset, int kind) {
            if (wrongKind == 0) {
                wrongOffset = offset;
                wrongKind = kind;
            }
        }

        private void skipSpaces() {
            while (position < length
                    && (bytes[position] == ' ' || bytes[position] == '\t' || bytes[position] == '\n')) {
                position++;
            }
        }

        private int endOfRun(char least, char most) {
            int end = position;
            while (end < length && bytes[end] >= least && bytes[end] <= most) {
                end++;
            }
            return end;
        }

        boolean atEnd() {
            skipSpaces();
            return position >= length;
        }

        boolean numberFollows() {
            skipSpaces();
            return endOfRun('0', '9') > position;
        }

        /** Fails at the next token if it is not the one that is due. */
        void need(boolean isDue) {
            if (!isDue) {
                fail(position, SYNTAX);
            }
        }

        /** Goes behind the semicolon if it is the next token; else stays in front of the token. */
        boolean tookSemicolon() {
            skipSpaces();
            if (position < length && bytes[position] == ';') {
                position++;
                return true;
            }
            return false;
        }

        /** Goes behind the word if it is the next token; else stays in front of the token. */
        boolean tookWord(String word) {
            skipSpaces();
            int end = endOfRun('a', 'z');
            if (end - position != word.length()) {
                return false;
            }
            for (int i = 0; i < word.length(); i++) {
                if (bytes[position + i] != word.charAt(i)) {
                    return false;
                }
            }
            position = end;
            return true;
        }

        /** Returns the next name, which none of the first names given may be, or NONE after an error. */
        int takeName(int[] used, int count) {
            skipSpaces();
            int end = endOfRun('a', 'z');
            if (end == position || end - position > MOST_LETTERS) {
                fail(position, SYNTAX);
                return NONE;
            }
            int name = nameUpTo(end);
            for (int i = 0; i < count; i++) {
                if (used[i] == name) {
                    fail(position, BAD_NAME);
                    return NONE;
                }
            }
            position = end;
            return name;
        }

        /** A name is kept as one number, five bits a letter, so that names compare as numbers do. */
        private int nameUpTo(int end) {
            int name = 0;
            for (int i = position; i < end; i++) {
                name = name * 32 + bytes[i] - 'a' + 1;
            }
            return name;
        }

        /** Returns the next number, or NONE after an error. */
        int takeNumber(int least, int most) {
            if (failed()) {
                return NONE;
            }
            skipSpaces();
            int end = endOfRun('0', '9');
            if (end == position) {
                fail(position, SYNTAX);
                return NONE;
            }
            int value = end - position > MOST_DIGITS ? NONE : valueUpTo(end);
            if (value < least || value > most) {
                fail(position, BAD_NUMBER);
                return NONE;
            }
            position = end;
            return value;
        }

        private int valueUpTo(int end) {
            int value = 0;
            for (int i = position; i < end; i++) {
                value = value * 10 + bytes[i] - '0';
            }
            return value;
        }
    }

    /** Reads a text into a site, line by line. */
    private static final class Parser {
        final Tokens tokens = new Tokens();

        boolean parse(Site site) {
            tokens.begin();
            site.reset();
            for (int lines = 0; lines <= MOST_BYTES && !tokens.failed() && !tokens.atEnd(); lines++) {
                parseLine(site);
                tokens.need(tokens.tookSemicolon());
            }
            return !tokens.failed();
        }

        private void parseLine(Site site) {
            int start = tokens.position;
            if (tokens.tookWord("near")) {
                parseNeighbour(site, start);
            } else if (tokens.tookWord("road")) {
                parseRoad(site, start);
            } else if (tokens.tookWord("blast")) {
                parseBlast(site, start);
            } else {
                parseSetting(site);
            }
        }

        private void parseSetting(Site site) {
            if (tokens.tookWord("day")) {
                site.dayFirst = tokens.takeNumber(0, DAY - 1);
                site.dayLast = tokens.takeNumber(site.dayFirst, DAY - 1);
            } else if (tokens.tookWord("step")) {
                site.step = tokens.takeNumber(1, 240);
            } else if (tokens.tookWord("close")) {
                site.before = tokens.takeNumber(0, 60);
                site.after = tokens.takeNumber(0, 60);
            } else if (tokens.tookWord("space")) {
                site.spacing = tokens.takeNumber(0, 240);
            } else if (tokens.tookWord("wind")) {
                parseWind(site);
            } else {
                tokens.need(false);
            }
        }

        private void parseWind(Site site) {
            int hour = tokens.takeNumber(0, HOURS - 1);
            int direction = tokens.takeNumber(0, 7);
            int speed = tokens.takeNumber(0, 20);
            if (!tokens.failed() && hour >= 0 && hour < HOURS) {
                site.windDirections[hour] = direction;
                site.windSpeeds[hour] = speed;
            }
        }

        private void parseNeighbour(Site site, int start) {
            if (site.neighbourTotal >= MOST_NEIGHBOURS) {
                tokens.fail(start, TOO_MANY);
                return;
            }
            int index = site.neighbourTotal;
            Neighbour it = site.neighbours[index];
            site.neighbourNames[index] = tokens.takeName(site.neighbourNames, index);
            it.x = tokens.takeNumber(0, MOST_COORDINATE);
            it.y = tokens.takeNumber(0, MOST_COORDINATE);
            it.limit = tokens.takeNumber(0, 99999);
            it.windows = 0;
            for (int i = 0; i <= MOST_WINDOWS && !tokens.failed() && tokens.numberFollows(); i++) {
                parseWindow(it);
            }
            site.neighbourTotal++;
        }

        private void parseWindow(Neighbour neighbour) {
            if (neighbour.windows >= MOST_WINDOWS) {
                tokens.fail(tokens.position, TOO_MANY);
                return;
            }
            int first = tokens.takeNumber(0, DAY - 1);
            tokens.need(tokens.tookWord("to"));
            int end = tokens.takeNumber(first + 1, DAY);
            neighbour.addWindow(first, end);
        }

        private void parseRoad(Site site, int start) {
            if (site.roadTotal >= MOST_ROADS) {
                tokens.fail(start, TOO_MANY);
                return;
            }
            int index = site.roadTotal;
            Road it = site.roads[index];
            site.roadNames[index] = tokens.takeName(site.roadNames, index);
            it.x1 = tokens.takeNumber(0, MOST_COORDINATE);
            it.y1 = tokens.takeNumber(0, MOST_COORDINATE);
            it.x2 = tokens.takeNumber(0, MOST_COORDINATE);
            it.y2 = tokens.takeNumber(0, MOST_COORDINATE);
            site.roadTotal++;
        }

        private void parseBlast(Site site, int start) {
            if (site.blastTotal >= MOST_BLASTS) {
                tokens.fail(start, TOO_MANY);
                return;
            }
            int index = site.blastTotal;
            Blast it = site.blasts[index];
            site.blastNames[index] = tokens.takeName(site.blastNames, index);
            it.x = tokens.takeNumber(0, MOST_COORDINATE);
            it.y = tokens.takeNumber(0, MOST_COORDINATE);
            it.radius = tokens.takeNumber(1, 500);
            it.fired = false;
            it.charges = 0;
            parseCharge(it);
            for (int i = 0; i < MOST_CHARGES && !tokens.failed() && tokens.numberFollows(); i++) {
                parseCharge(it);
            }
            site.blastTotal++;
        }

        private void parseCharge(Blast blast) {
            if (blast.charges >= MOST_CHARGES) {
                tokens.fail(tokens.position, TOO_MANY);
                return;
            }
            int size = tokens.takeNumber(1, 999);
            tokens.need(tokens.tookWord("at"));
            int delay = tokens.takeNumber(0, 9999);
            blast.addCharge(size, delay);
        }
    }
}
