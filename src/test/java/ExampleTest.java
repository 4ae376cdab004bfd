/** The document's four examples, call by call. */
public final class ExampleTest {
    public static void main(String[] args) {
        example1();
        example2();
        example3();
        example4();
        Check.finish("ExampleTest");
    }

    /** The text: blast a 0 0 9 10 at 0 5 at 7 8 at 8;near n 3 0 900; */
    private static void example1() {
        BlastPlanner x = new BlastPlanner();
        Check.same("1: append", 20, x.append(1651270003, 1948279072, 807415840, 958411056, 543257632));
        Check.same("1: append", 40, x.append(807417120, 1635000375, 540549217, 1948268603, 1852137842));
        Check.same("1: append", 60, x.append(544088115, 540024889, 808467200, 0, 0));
        Check.same("1: truncate(51)", true, x.truncate(51));
        Check.same("1: load", 1, x.load());
        Check.same("1: windowSize(0)", 15, x.windowSize(0));
        Check.same("1: windowStart(0)", 0, x.windowStart(0));
        Check.same("1: vibration(0, 0)", 1500, x.vibration(0, 0));
        Check.same("1: neededGap(0, 0)", -1, x.neededGap(0, 0));
    }

    /** The text: blast a 0 0 9 10 at 0;blast a 1 1 9 10 at 0; */
    private static void example2() {
        BlastPlanner x = new BlastPlanner();
        Check.same("2: append", 20, x.append(1651270003, 1948279072, 807415840, 958411056, 543257632));
        Check.same("2: append", 40, x.append(809198188, 1634956320, 1629499680, 824195360, 825237601));
        Check.same("2: append", 60, x.append(1948266555, 0, 0, 0, 0));
        Check.same("2: truncate(44)", true, x.truncate(44));
        Check.badArgument("2: load", x::load);
        Check.same("2: errorOffset", 28, x.errorOffset());
        Check.same("2: errorKind", 3, x.errorKind());
    }

    /** The text: day 600 720;road r 0 5 9 5;blast a 0 0 5 1 at 0;blast b 0 0 4 1 at 0; */
    private static void example3() {
        BlastPlanner x = new BlastPlanner();
        Check.same("3: append", 20, x.append(1684109600, 909127712, 926036027, 1919902052, 544350256));
        Check.same("3: append", 40, x.append(540352569, 540359522, 1818325876, 543236144, 540024885));
        Check.same("3: append", 60, x.append(540090465, 1948266555, 1651270003, 1948279328, 807415840));
        Check.same("3: append", 80, x.append(874524960, 1635000368, 989855744, 0, 0));
        Check.same("3: truncate(69)", true, x.truncate(69));
        Check.same("3: load", 2, x.load());
        Check.same("3: closedBy(0)", 1, x.closedBy(0));
        Check.same("3: closedBy(1)", 0, x.closedBy(1));
        Check.same("3: schedule(0, 600)", -1, x.schedule(0, 600));
        Check.same("3: reason(1, 610)", 5, x.reason(1, 610));
        Check.same("3: reason(1, 615)", 0, x.reason(1, 615));
        Check.same("3: closedMinutes(0)", 15, x.closedMinutes(0));
        Check.same("3: planTime(1)", 660, x.planTime(1));
    }

    /** The text: blast q 0 0 1 5 at 0; */
    private static void example4() {
        BlastPlanner x = new BlastPlanner();
        Check.same("4: append", 20, x.append(1651270003, 1948279072, 807415840, 958411040, 1635000368));
        Check.same("4: append", 40, x.append(989855744, 0, 0, 0, 0));
        Check.same("4: truncate(21)", true, x.truncate(21));
        Check.same("4: load", 1, x.load());
        Check.badState("4: schedule(0, 961)", () -> x.schedule(0, 961));
        Check.same("4: schedule(0, 960)", -1, x.schedule(0, 960));
        Check.same("4: sirenMinute(0)", 950, x.sirenMinute(0));
        Check.same("4: fire(0)", 960, x.fire(0));
        Check.same("4: format(0)", 19, x.format(0));
        Check.same("4: undo", 1, x.undo());
        Check.same("4: isFired(0)", false, x.isFired(0));
    }
}
