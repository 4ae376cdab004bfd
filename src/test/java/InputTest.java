/** Promises 1 to 6: a new object, the buffer, load and its errors. */
public final class InputTest {
    private static final String CHARGE = " 1 at 0";

    public static void main(String[] args) {
        promise1NewObject();
        promise2Append();
        promise3Truncate();
        promise4Load();
        promise4LoadReplacesEverything();
        promise4Defaults();
        promise4Spaces();
        promises5And6ErrorState();
        syntaxErrors();
        numberErrors();
        rangesOfSettings();
        rangesOfPlaces();
        nameErrors();
        tooMany();
        Check.finish("InputTest");
    }

    private static void promise1NewObject() {
        BlastPlanner x = new BlastPlanner();
        Check.same("new: blasts", 0, x.blastCount());
        Check.same("new: neighbours", 0, x.neighbourCount());
        Check.same("new: roads", 0, x.roadCount());
        Check.same("new: starts", 9, x.startCount());
        Check.same("new: error offset", -1, x.errorOffset());
        Check.same("new: error kind", 0, x.errorKind());
        Check.same("new: undo depth", 0, x.undoDepth());
        Check.same("new: undo", -1, x.undo());
        Check.same("new: formatted", -1, x.formattedByte(0));
        Check.same("new: total closed", 0, x.totalClosed());
        Check.same("new: busiest hour", -1, x.busiestHour());
        Check.same("new: sirens", 0, x.sirenCount());
        Check.same("new: next blast", -1, x.nextBlast(Integer.MIN_VALUE));
        Check.same("new: plan length", 0, x.planLength());
        Check.same("new: truncate(1)", false, x.truncate(1));
        Check.same("new: truncate(0)", true, x.truncate(0));
        Check.same("new: load", 0, x.load());
        Check.same("new: apply plan", 0, x.applyPlan());
        Check.same("new: depth after the plan", 1, x.undoDepth());
    }

    private static void promise2Append() {
        BlastPlanner x = new BlastPlanner();
        for (int i = 1; i <= 40; i++) {
            Check.same("append " + i, 20 * i, x.append(0x20202020, 0x20202020, 0x20202020, 0x20202020, 0x20202020));
        }
        Check.same("append to 820", -1, x.append(0, 0, 0, 0, 0));
        Check.same("full: load of spaces", 0, x.load());
        Check.same("after load: append", 20, x.append(0, 0, 0, 0, 0));
        x.truncate(0);
        for (int i = 1; i <= 40; i++) {
            x.append(0x20202020, 0x20202020, 0x20202020, 0x20202020, 0x20202020);
        }
        x.truncate(781);
        Check.same("append to 801", -1, x.append(0, 0, 0, 0, 0));
        Check.same("refused append keeps the length", false, x.truncate(782));
        x.truncate(780);
        Check.same("append to 800", 800, x.append(0, 0, 0, 0, 0));
        x.truncate(0);
        // "day ", "1 2;", " ", a byte 0xff: the error tells the order of the bytes
        x.append(0x64617920, 0x3120323b, 0x20ff2020, 0, 0);
        Check.badArgument("append: bytes in order", x::load);
        Check.same("append: offset of 0xff", 9, x.errorOffset());
        x.append(0, 0, 0, 0, 0x3b000000);
        Check.badArgument("append: byte 0", x::load);
        Check.same("append: offset of byte 0", 0, x.errorOffset());
        x.append(0x20202020, 0x20202020, 0x20202020, 0x20202020, 0x2020203b);
        Check.badArgument("append: last byte", x::load);
        Check.same("append: offset of the last byte", 19, x.errorOffset());
    }

    private static void promise3Truncate() {
        BlastPlanner x = new BlastPlanner();
        x.append(0, 0, 0, 0, 0);
        Check.same("truncate(21)", false, x.truncate(21));
        Check.same("truncate(-1)", false, x.truncate(-1));
        Check.same("truncate(MIN)", false, x.truncate(Integer.MIN_VALUE));
        Check.same("truncate(MAX)", false, x.truncate(Integer.MAX_VALUE));
        Check.same("truncate(20)", true, x.truncate(20));
        Check.same("truncate(3)", true, x.truncate(3));
        Check.same("truncate back to 4", false, x.truncate(4));
        Check.same("append behind", 23, x.append(0, 0, 0, 0, 0));
        Check.same("truncate(0)", true, x.truncate(0));
        Check.same("truncate(1) of nothing", false, x.truncate(1));
        Texts.type(x, "day 5 6;junk");
        x.truncate(8);
        Check.same("truncated text", 0, x.load());
        Check.same("truncated text counts", 1, x.startCount());
    }

    private static void promise4Load() {
        BlastPlanner x = new BlastPlanner();
        Check.same("load empty", 0, Texts.load(x, ""));
        Check.same("load 2 blasts", 2, Texts.load(x, "blast a 1 2 3 4 at 5;blast b 1 2 3 4 at 5;"));
        Check.same("buffer is empty", false, x.truncate(1));
        x.schedule(1, 500);
        x.format(1);
        x.retime(0, 3);
        Texts.type(x, "blast a 1 2 3 4 at 5; oops");
        Check.badArgument("load a wrong text", x::load);
        Check.same("buffer is empty after an error", false, x.truncate(1));
        Check.same("blasts stay", 2, x.blastCount());
        Check.same("times stay", 500, x.timeOf(1));
        Check.same("actions stay", 2, x.undoDepth());
        Check.same("the text stays", "b 8:20 w4 r0", Texts.formatted(x));
        Check.same("undo after a wrong text", 1, x.undo());
        Check.same("undo again", 0, x.undo());
        Check.same("time undone", -1, x.timeOf(1));
    }

    private static void promise4LoadReplacesEverything() {
        BlastPlanner x = Texts.loaded("day 0 1439;step 7;close 60 60;space 240;wind 9 2 20;"
                + "near n 10 0 0 0 to 1440;road r 0 0 1 1;blast a 0 0 500 9 at 0 9 at 9;blast b 999 999 1 9 at 0;");
        Check.same("vibration", BlastPlanner.VIBRATION, x.reason(0, 600));
        Check.same("dust", 1, x.dustAt(0, 9));
        Texts.load(x, "near n 10 0 99999;road r 0 0 1 1;blast a 0 0 500 9 at 0;");
        Texts.load(x, "wind 0 2 20;wind 23 2 20;near n 10 0 99999;blast a 0 0 500 9 at 0;");
        Check.same("winds of the first and the last hour", 1 | 1 << 23, x.dustHours(0));
        for (int loads = 1; loads <= 3; loads++) {
            Texts.load(x, "near n 10 0 99999;road r 0 0 1 1;blast a 0 0 500 9 at 0;");
            Check.same("no wind is left", 0, x.dustHours(0));
        }
        x.schedule(0, 600);
        x.fire(0);
        x.format(0);
        Check.same("fired", true, x.isFired(0));
        Check.same("charges are replaced", 1, x.chargeCount(0));
        Check.same("winds are replaced", 0, x.dustHours(0));
        Check.same("quiet windows are replaced", 0, x.quietMinutes(0));
        Texts.load(x, "blast a 0 0 500 9 at 0;blast b 0 0 1 1 at 0;");
        Check.same("open again", -1, x.timeOf(0));
        Check.same("not fired", false, x.isFired(0));
        Check.same("no action", 0, x.undoDepth());
        Check.same("no undo", -1, x.undo());
        Check.same("no neighbour", 0, x.neighbourCount());
        Check.same("no road", 0, x.roadCount());
        Check.same("no closed road", 0, x.closedBy(0));
        Check.same("no sirens", 0, x.sirenCount());
        Check.same("no next blast", -1, x.nextBlast(0));
        Check.same("formatted stays", "a 10:00 w9 r1 fired", Texts.formatted(x));
    }

    private static void promise4Defaults() {
        BlastPlanner x = new BlastPlanner();
        Texts.load(x, "day 0 10;step 3;close 1 2;space 9;wind 8 0 20;");
        Check.same("starts", 4, x.startCount());
        Texts.load(x, "near n 5 0 99999;road r 5 5 5 5;blast a 5 5 1 1 at 0;blast b 5 5 1 1 at 0;");
        Check.same("default starts", 9, x.startCount());
        Check.same("before the day", BlastPlanner.OUT_OF_HOURS, x.reason(0, 479));
        Check.same("first minute", BlastPlanner.ALLOWED, x.reason(0, 480));
        Check.same("last minute", BlastPlanner.ALLOWED, x.reason(0, 960));
        Check.same("behind the day", BlastPlanner.OUT_OF_HOURS, x.reason(0, 961));
        x.schedule(0, 700);
        Check.same("default closing", 15, x.closedMinutes(0));
        Check.same("default closing start", 690, x.closureStart(0, 0));
        Check.same("default spacing", BlastPlanner.CROWDED, x.reason(1, 714));
        Check.same("default spacing ends", BlastPlanner.ALLOWED, x.reason(1, 715));
        Texts.load(x, "step 9;day 5 5;step 60;day 100 219;close 1 2;close 3 4;space 9;space 1;wind 2 0 20;wind 2 4 20;"
                + "near n 5 9 99999;road r 5 5 5 5;blast a 5 5 1 1 at 0;blast b 5 5 1 1 at 0;");
        Check.same("the last settings count", 2, x.startCount());
        Check.same("the last wind counts", 1, x.dustAt(0, 2));
        x.schedule(0, 110);
        Check.same("the last closing counts", 107, x.closureStart(0, 0));
        Check.same("the last closing counts at its end", 7, x.closureLength(0, 0));
        Check.same("the last spacing counts", BlastPlanner.ALLOWED, x.reason(1, 111));
    }

    private static void promise4Spaces() {
        BlastPlanner x = new BlastPlanner();
        Check.same("spaces around tokens", 1,
                Texts.load(x, "\n\t day 5\t6 ;\n step\n2;blast blast 1\n2 3 4at5 6\tat 7  ; \t\n"));
        Check.same("charges without spaces", 2, x.chargeCount(0));
        Check.same("delay of 4at5", 5, x.delay(0, 0));
        Check.same("only spaces", 0, Texts.load(x, " \n\t"));
        Check.same("letters beside digits", 1,
                Texts.load(x, "day5 6;near a1 2 3 4to5 6to7;road b1 2 3 4;blast c1 2 3 4at5;"));
        Check.same("keywords as names", 2,
                Texts.load(x, "near near 1 2 3;road at 1 2 3 4;blast to 1 2 3 4 at 5;blast day 1 2 3 4 at 5;"));
        Check.same("leading zeros", 1, Texts.load(x, "day 00005 00006;blast a 001 01 00500 00999 at 09999;"));
        error("a carriage return", "day 5 6;\r", 8, BlastPlanner.SYNTAX);
        error("a form feed", "day\f5 6;", 3, BlastPlanner.SYNTAX);
    }

    private static void promises5And6ErrorState() {
        BlastPlanner x = new BlastPlanner();
        Texts.type(x, "step 0;");
        Check.same("no error before load", -1, x.errorOffset());
        Check.badArgument("wrong number", x::load);
        Check.same("offset", 5, x.errorOffset());
        Check.same("kind", BlastPlanner.BAD_NUMBER, x.errorKind());
        Texts.type(x, "blast a 1 2 3 4 at 5;");
        Check.same("the error stays until load", 5, x.errorOffset());
        Check.same("the kind stays until load", BlastPlanner.BAD_NUMBER, x.errorKind());
        x.load();
        Check.same("success clears the offset", -1, x.errorOffset());
        Check.same("success clears the kind", 0, x.errorKind());
        Texts.type(x, "?");
        Check.badArgument("wrong byte", x::load);
        x.schedule(0, 500);
        x.undo();
        Check.same("undo keeps the offset", 0, x.errorOffset());
        Check.same("undo keeps the kind", BlastPlanner.SYNTAX, x.errorKind());
        Texts.type(x, "  ;");
        Check.badArgument("another error", x::load);
        Check.same("the latest offset", 2, x.errorOffset());
    }

    private static void syntaxErrors() {
        String[] wrong = {";", "5;", "Day 5 6;", "dayx 5 6;", "da", "day 5 6;;", "day 5 6 7;", "day 5 six;", "day ;",
            "step 5,", "near 5 1 2 3;", "near Ab 1 2 3;", "near abcdefg 1 2 3;", "near a 1 2 3 4 too 5;",
            "near a 1 2 3 4 5;", "near a 1 2 3 to 5;", "road a 1 2 3 4 5;", "road a 1 2 3 b;",
            "blast a 1 2 3;", "blast a 1 2 3 4;", "blast a 1 2 3 4 to 5;", "blast a 1 2 3 4 at 5 at 6;",
            "blast a 1 2 3 4 at 5 x;", "at 5;", "to 5;", "day 5 -6;", "day 5 6\u00e9;", "neara 1 2 3;",
            "road ab-c 1 2 3 4;", "blast a 1 2 3 4 at at;", "wind 1 2;", "close 1;"};
        int[] offsets = {0, 0, 0, 0, 0, 8, 8, 6, 4,
            6, 5, 5, 5, 15,
            15, 13, 15, 13,
            13, 15, 16, 21,
            21, 0, 0, 6, 7, 0,
            7, 19, 8, 7};
        for (int i = 0; i < wrong.length; i++) {
            error(wrong[i], wrong[i], offsets[i], BlastPlanner.SYNTAX);
        }
        String whole = "blast a 1 2 3 4 at 5 6 at 7";
        for (int end = 1; end <= whole.length(); end++) {
            boolean inKeyword = end < 5;
            boolean inAt = end == 17 || end == 24;
            error("cut at " + end, whole.substring(0, end), inKeyword ? 0 : inAt ? end - 1 : end, BlastPlanner.SYNTAX);
        }
        error("cut behind spaces", "day 5 6 \n ", 10, BlastPlanner.SYNTAX);
        error("cut before a number", "close 1  ", 9, BlastPlanner.SYNTAX);
        error("cut before a name", "near ", 5, BlastPlanner.SYNTAX);
        error("cut before to", "near a 1 2 3 4", 14, BlastPlanner.SYNTAX);
    }

    private static void numberErrors() {
        error("six digits", "day 000005 6;", 4, BlastPlanner.BAD_NUMBER);
        error("many digits", "step 99999999999999999999;", 5, BlastPlanner.BAD_NUMBER);
        error("a wrapping number", "step 4294967297;", 5, BlastPlanner.BAD_NUMBER);
        error("a wrong number at the end", "day 5 4", 6, BlastPlanner.BAD_NUMBER);
        error("a wrong number before a wrong byte", "day 1440?", 4, BlastPlanner.BAD_NUMBER);
        error("the first error counts", "day 1 1440;step 0;", 6, BlastPlanner.BAD_NUMBER);
    }

    private static void rangesOfSettings() {
        range("day # 1439;", 0, 1439);
        range("day 0 #;", 0, 1439);
        range("day 700 #;", 700, 1439);
        range("step #;", 1, 240);
        range("close # 5;", 0, 60);
        range("close 5 #;", 0, 60);
        range("space #;", 0, 240);
        range("wind # 1 2;", 0, 23);
        range("wind 1 # 2;", 0, 7);
        range("wind 1 2 #;", 0, 20);
    }

    private static void rangesOfPlaces() {
        range("near a # 1 1;", 0, 999);
        range("near a 1 # 1;", 0, 999);
        range("near a 1 1 #;", 0, 99999);
        range("near a 1 1 1 # to 1440;", 0, 1439);
        range("near a 1 1 1 0 to #;", 1, 1440);
        range("near a 1 1 1 0 to 1 700 to #;", 701, 1440);
        range("road a # 1 1 1;", 0, 999);
        range("road a 1 # 1 1;", 0, 999);
        range("road a 1 1 # 1;", 0, 999);
        range("road a 1 1 1 #;", 0, 999);
        range("blast a # 1 1 1 at 1;", 0, 999);
        range("blast a 1 # 1 1 at 1;", 0, 999);
        range("blast a 1 1 # 1 at 1;", 1, 500);
        range("blast a 1 1 1 # at 1;", 1, 999);
        range("blast a 1 1 1 1 at #;", 0, 9999);
        range("blast a 1 1 1 1 at 1 # at 1;", 1, 999);
        range("blast a 1 1 1 1 at 1 1 at #;", 0, 9999);
    }

    /** The least and the greatest number at the mark are taken, those beyond are refused there. */
    private static void range(String text, int least, int greatest) {
        int offset = text.indexOf('#');
        right(text.replace("#", Integer.toString(least)));
        right(text.replace("#", Integer.toString(greatest)));
        if (least > 0) {
            error(text, text.replace("#", Integer.toString(least - 1)), offset, BlastPlanner.BAD_NUMBER);
        }
        error(text, text.replace("#", Integer.toString(greatest + 1)), offset, BlastPlanner.BAD_NUMBER);
    }

    private static void nameErrors() {
        error("neighbours", "near ab 1 2 3;near ab 1 2 3;", 19, BlastPlanner.BAD_NAME);
        error("roads", "road abcdef 1 2 3 4;road b 1 2 3 4; road abcdef", 41, BlastPlanner.BAD_NAME);
        error("blasts", "blast z 1 2 3 4 at 5;blast zz 1 2 3 4 at 5;blast z 9999", 49, BlastPlanner.BAD_NAME);
        error("a long name is no used name", "near abcdef 1 2 3;near abcdefg", 23, BlastPlanner.SYNTAX);
        right("near a 1 2 3;road a 1 2 3 4;blast a 1 2 3 4 at 5;");
        right("near a 1 2 3;near aa 1 2 3;near aaa 1 2 3;near ab 1 2 3;near ba 1 2 3;near b 1 2 3;");
        right("near zzzzzz 1 2 3;near zzzzz 1 2 3;near azzzzz 1 2 3;near zzzzza 1 2 3;");
        BlastPlanner x = Texts.loaded("near a 1 2 3;road a 1 2 3 4;blast a 1 2 3 4 at 5;");
        Check.same("names of an earlier text may come again", 1,
                Texts.load(x, "near a 1 2 3;road a 1 2 3 4;blast a 1 2 3 4 at 5;"));
    }

    private static void tooMany() {
        StringBuilder near = new StringBuilder();
        for (char c = 'a'; c < 'i'; c++) {
            near.append("near ").append(c).append(" 1 2 3;");
        }
        right(near.toString());
        error("9th neighbour", near + "near a", near.length(), BlastPlanner.TOO_MANY);
        error("9th neighbour behind a space", near + " near", near.length() + 1, BlastPlanner.TOO_MANY);
        error("no 9th neighbour", near + "nea", near.length(), BlastPlanner.SYNTAX);
        StringBuilder road = new StringBuilder();
        StringBuilder blast = new StringBuilder();
        for (char c = 'a'; c < 'g'; c++) {
            road.append("road ").append(c).append(" 1 2 3 4;");
            blast.append("blast ").append(c).append(" 1 2 3 4 at 5;");
        }
        right(road + "" + blast + near);
        error("7th road", road + "road g 1 2 3 4;", road.length(), BlastPlanner.TOO_MANY);
        error("7th blast", blast + "\tblast", blast.length() + 1, BlastPlanner.TOO_MANY);
        String windows = "near a 1 2 3 1 to 2 1 to 2 1 to 2 1 to 2";
        right(windows + ";");
        for (String fifth : new String[] {"1 to 2", "1440 to 2", "123456", "0"}) {
            error("5th window " + fifth, windows + " " + fifth, windows.length() + 1, BlastPlanner.TOO_MANY);
        }
        error("a word for a 5th window", windows + " to", windows.length() + 1, BlastPlanner.SYNTAX);
        String charges = "blast a 1 2 3" + CHARGE.repeat(12);
        right(charges + ";");
        for (String more : new String[] {"1 at 0", "1000 at 0", "123456", "0"}) {
            error("13th charge " + more, charges + "\n" + more, charges.length() + 1, BlastPlanner.TOO_MANY);
        }
        error("a word for a 13th charge", charges + " at", charges.length() + 1, BlastPlanner.SYNTAX);
    }

    private static void right(String text) {
        BlastPlanner x = new BlastPlanner();
        Texts.type(x, text);
        String got = Check.outcome(x::load);
        Check.count(!got.startsWith("java"), text + ": is right, got " + got + " at " + x.errorOffset());
        Check.same(text + ": error kind", 0, x.errorKind());
    }

    private static void error(String what, String text, int offset, int kind) {
        BlastPlanner x = new BlastPlanner();
        Texts.type(x, text);
        Check.badArgument(what + ": load", x::load);
        Check.same(what + ": error offset", offset, x.errorOffset());
        Check.same(what + ": error kind", kind, x.errorKind());
    }
}
