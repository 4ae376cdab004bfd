/** Each sentence on the input that names a boundary: promises 1 to 6, the input text and the errors in the text. */
public final class EdgeInputTest {
    private static final int SPACES = 0x20202020;
    private static final String BLAST = "blast a 1 2 3 4 at 5;";

    public static void main(String[] args) {
        newObject();
        bufferGrowsTo800();
        bufferWouldExceed800();
        bytesInTurn();
        bytesAbove127();
        shortenedToItsFirstBytes();
        truncatedLengths();
        emptyTexts();
        textOf800Bytes();
        errorsInATextOf800Bytes();
        bufferIsEmptyAfterLoad();
        loadReplacesEverything();
        valuesWithoutLines();
        noActionAfterLoad();
        errorOfTheLatestLoad();
        everyByteBetweenTokens();
        everyByteAroundTheText();
        lettersOfAWord();
        lengthOfAName();
        lettersOfAKeyword();
        digitsOfANumber();
        sixDigitsInEachPlace();
        numbersTouchWords();
        secondNumbers();
        cutTexts();
        linesWithoutEnd();
        lastValueCounts();
        fullLists();
        oneTooMany();
        tooManyBeforeOtherErrors();
        usedNames();
        mixedErrors();
        Check.finish("EdgeInputTest");
    }

    private static void newObject() {
        BlastPlanner x = new BlastPlanner();
        Check.same("nothing can be cut", false, x.truncate(1));
        Check.same("nothing is closed", 0, x.totalClosed());
        Check.same("the day begins at 480", 9, x.startCount());
        Check.same("the empty buffer is a text", 0, x.load());
        Check.same("without an error", -1, x.errorOffset());
    }

    // ---- the buffer

    private static void bufferGrowsTo800() {
        BlastPlanner x = new BlastPlanner();
        for (int length = 20; length <= 800; length += 20) {
            Check.same("length " + length, length, spaces(x));
        }
        Check.same("nothing more", -1, spaces(x));
        Check.same("nothing more, still", -1, spaces(x));
        Check.same("800 bytes are there", true, x.truncate(800));
    }

    private static void bufferWouldExceed800() {
        for (int length = 775; length <= 800; length++) {
            BlastPlanner x = new BlastPlanner();
            fill(x, length);
            boolean fits = length <= 780;
            Check.same("append behind " + length, fits ? length + 20 : -1, spaces(x));
            int now = fits ? length + 20 : length;
            Check.same("not longer than " + now, false, x.truncate(now + 1));
            Check.same("as long as " + now, true, x.truncate(now));
        }
        // the text ends with the last byte; what is refused must not stand in front or in place of it
        BlastPlanner y = new BlastPlanner();
        Texts.type(y, " ".repeat(779) + BLAST);
        Check.same("refused", -1, y.append(0x3f3f3f3f, 0x3f3f3f3f, 0x3f3f3f3f, 0x3f3f3f3f, 0x3f3f3f3f));
        Check.same("and nothing is appended", 1, y.load());
    }

    /** A wrong byte among spaces tells by the error's offset where each byte of each parameter went. */
    private static void bytesInTurn() {
        for (int at = 0; at < 20; at++) {
            int[] words = {SPACES, SPACES, SPACES, SPACES, SPACES};
            int shift = 24 - at % 4 * 8;
            words[at / 4] = words[at / 4] & ~(255 << shift) | '?' << shift;
            BlastPlanner x = new BlastPlanner();
            x.append(words[0], words[1], words[2], words[3], words[4]);
            wrong("byte " + at, x, at, BlastPlanner.SYNTAX);
        }
        BlastPlanner y = new BlastPlanner();
        // "day 600 720;step 30;"
        Check.same("20 bytes", 20, y.append(0x64617920, 0x36303020, 0x3732303b, 0x73746570, 0x2033303b));
        Check.same("a text of 20 bytes", 0, y.load());
        Check.same("is read", 5, y.startCount());
    }

    private static void bytesAbove127() {
        for (int sign = 128; sign < 256; sign++) {
            for (int place = 0; place < 4; place++) {
                int word = SPACES & ~(255 << 24 - 8 * place) | sign << 24 - 8 * place;
                BlastPlanner x = new BlastPlanner();
                x.append(word, word, SPACES, SPACES, SPACES);
                wrong("byte " + sign + " at " + place, x, place, BlastPlanner.SYNTAX);
            }
        }
        BlastPlanner y = new BlastPlanner();
        y.append(-1, Integer.MIN_VALUE, Integer.MAX_VALUE, 0, -1);
        wrong("all bits set", y, 0, BlastPlanner.SYNTAX);
    }

    private static void shortenedToItsFirstBytes() {
        BlastPlanner x = new BlastPlanner();
        Texts.type(x, BLAST + BLAST.replace('a', 'b') + "x");
        x.truncate(42);
        x.truncate(21);
        Check.same("the first blast is left", 1, x.load());
        // bytes that were cut off do not come back
        Texts.type(x, "day 7 8;day 9 9;step");
        x.truncate(8);
        x.append(0x64617920, 0x313b0000, 0, 0, 0);
        x.truncate(14);
        wrong("behind what is left", x, 13, BlastPlanner.SYNTAX);
        Texts.type(x, "day 7 8;");
        x.truncate(0);
        Check.same("append behind nothing", 20, x.append(0x64617920, 0x3020393b, SPACES, SPACES, SPACES));
        Check.same("is the whole text", 0, x.load());
        Check.same("day 0 9", 1, x.startCount());
    }

    private static void truncatedLengths() {
        for (int length : new int[] {0, 1, 19, 20, 21, 400, 799, 800}) {
            for (int to : new int[] {Integer.MIN_VALUE, -1, 0, 1, length - 1, length, length + 1, 799, 800, 801, Integer.MAX_VALUE}) {
                BlastPlanner x = new BlastPlanner();
                fill(x, length);
                boolean due = to >= 0 && to <= length;
                Check.same("truncate " + length + " to " + to, due, x.truncate(to));
                int now = due ? to : length;
                Check.same("then " + now + " are there", true, x.truncate(now));
                Check.same("and no more", false, x.truncate(now + 1));
            }
        }
    }

    // ---- load

    private static void emptyTexts() {
        for (String text : new String[] {"", " ", "\n", "\t", " \t\n ", " ".repeat(799), "\n".repeat(800)}) {
            BlastPlanner x = Texts.loaded("near n 9 0 0;road r 0 0 0 0;day 5 6;step 1;blast a 0 0 1 1 at 0;");
            x.retime(0, 1);
            Check.same("a text with no line has no blasts", 0, Texts.load(x, text));
            Check.same("without an error", -1, x.errorOffset());
            Check.same("of no kind", 0, x.errorKind());
            Check.same("no blasts", 0, x.blastCount());
            Check.same("no neighbours", 0, x.neighbourCount());
            Check.same("no roads", 0, x.roadCount());
            Check.same("the day is 480 to 960 again", 9, x.startCount());
            Check.same("no action", -1, x.undo());
        }
    }

    private static void textOf800Bytes() {
        String text = "step 1;" + " ".repeat(772) + BLAST;
        Check.same("800 bytes", 800, text.length());
        BlastPlanner x = new BlastPlanner();
        Check.same("are a text", 1, Texts.load(x, text));
        Check.same("its first line", 481, x.startCount());
        Check.same("its last line", 5, x.delay(0, 0));
        StringBuilder lines = new StringBuilder();
        for (int i = 0; i < 100; i++) {
            lines.append("step ").append(i + 1).append(i < 9 ? " ;" : i < 99 ? ";" : "");
        }
        String many = lines.substring(0, 792) + "step 240;".substring(0, 5) + "7 ;";
        Check.same("100 lines", 800, many.length());
        Check.same("are a text, too", 0, Texts.load(x, many));
        Check.same("and the last one counts", 69, x.startCount());
        Check.same("a text without a space", 0, Texts.load(x, "step5;".repeat(133) + "\t\t"));
        Check.same("133 lines", 97, x.startCount());
    }

    private static void errorsInATextOf800Bytes() {
        String spaces = " ".repeat(800);
        error("the last byte", spaces.substring(1) + "?", 799, BlastPlanner.SYNTAX);
        error("the first byte", "?" + spaces.substring(1), 0, BlastPlanner.SYNTAX);
        error("a word at the end", spaces.substring(3) + "day", 800, BlastPlanner.SYNTAX);
        error("a number at the end", spaces.substring(6) + "step 9", 800, BlastPlanner.SYNTAX);
        error("a wrong number at the end", spaces.substring(6) + "step 0", 799, BlastPlanner.BAD_NUMBER);
        error("a digit run of 795", "step " + "9".repeat(795), 5, BlastPlanner.BAD_NUMBER);
        error("a letter run of 800", "a".repeat(800), 0, BlastPlanner.SYNTAX);
        error("a letter run of 795", "near " + "a".repeat(795), 5, BlastPlanner.SYNTAX);
        error("semicolons", ";".repeat(800), 0, BlastPlanner.SYNTAX);
    }

    private static void bufferIsEmptyAfterLoad() {
        for (String text : new String[] {"", BLAST, "?", "day 0", " ".repeat(800)}) {
            BlastPlanner x = new BlastPlanner();
            Texts.type(x, text);
            Check.outcome(x::load);
            Check.same("'" + text.trim() + "': no byte is left", false, x.truncate(1));
            Check.same("'" + text.trim() + "': append begins again", 20, spaces(x));
            x.truncate(0);
            Check.same("'" + text.trim() + "': nothing to load again", 0, x.load());
        }
    }

    /** After any other texts, right and wrong ones, a planner is as a new one with the last right text. */
    private static void loadReplacesEverything() {
        StringBuilder winds = new StringBuilder();
        for (int hour = 0; hour < 24; hour++) {
            winds.append("wind ").append(hour).append(" 2 20;");
        }
        String full = "day 0 1439;step 200;close 60 60;space 240;" + lines("near", 8, "9 0 99999 0 to 500 500 to 599")
                + lines("road", 6, "0 0 9 9") + lines("blast", 6, "0 0 500 99 at 0 99 at 0");
        String[] texts = {"", "near a 9 0 999;near b 9 0 999;road a 900 900 990 900;" + lines("blast", 2, "0 0 1 1 at 0"),
            "wind 0 2 20;wind 23 2 20;near a 9 0 999;blast a 0 0 1 1 at 0;",
            lines("near", 2, "900 900 999 0 to 1440") + lines("blast", 2, "0 0 1 1 at 0"),
            "day 600 700;step 50;close 1 1;space 1;" + lines("road", 2, "0 0 9 9") + lines("blast", 2, "0 0 5 9 at 0 9 at 9"),
            full, winds + "near a 9 0 9;" + lines("blast", 4, "0 0 500" + " 1 at 0".repeat(12)), BLAST + "step 0;",
            full + "blast", winds + "?"};
        for (int i = 0; i < 7; i++) {
            right("text " + i, texts[i]);
        }
        int small = 5;
        for (int last = 0; last < small; last++) {
            for (int first = 0; first < texts.length; first++) {
                BlastPlanner x = new BlastPlanner();
                for (int text : new int[] {first, (first + 3) % texts.length, last}) {
                    Texts.type(x, texts[text]);
                    Check.outcome(x::load);
                    Check.outcome(() -> x.schedule(0, 600));
                    Check.outcome(() -> x.fire(0));
                    Check.outcome(() -> x.retime(1, 7));
                }
                Texts.load(x, texts[last]);
                String due = Snapshot.of(Texts.loaded(texts[last]));
                Check.same("text " + last + " after text " + first, due, Snapshot.of(x));
            }
        }
    }

    /** Without these lines the working minutes are 480 to 960, the step 60, the closing times 10 and 5, the spacing 15. */
    private static void valuesWithoutLines() {
        String two = "road r 0 0 0 0;blast a 0 0 1 1 at 0;blast b 0 0 1 1 at 0;";
        BlastPlanner x = Texts.loaded(two);
        Check.same("start minutes", 9, x.startCount());
        Check.same("479", BlastPlanner.OUT_OF_HOURS, x.reason(0, 479));
        Check.same("480", BlastPlanner.ALLOWED, x.reason(0, 480));
        Check.same("960", BlastPlanner.ALLOWED, x.reason(0, 960));
        Check.same("961", BlastPlanner.OUT_OF_HOURS, x.reason(0, 961));
        Check.same("the second start minute", 540, x.earliest(0, 481));
        x.schedule(0, 700);
        Check.same("10 before", 690, x.closureStart(0, 0));
        Check.same("5 after", 15, x.closureLength(0, 0));
        Check.same("14 away", BlastPlanner.CROWDED, x.reason(1, 714));
        Check.same("15 away", BlastPlanner.ALLOWED, x.reason(1, 715));
        Check.same("14 before", BlastPlanner.CROWDED, x.reason(1, 686));
        Check.same("15 before", BlastPlanner.ALLOWED, x.reason(1, 685));
        // one line sets its own values only
        Check.same("step alone", 5, Texts.loaded("step 120;").startCount());
        Check.same("day alone", 2, Texts.loaded("day 480 540;").startCount());
        Texts.load(x, "close 1 1;" + two);
        x.schedule(0, 700);
        Check.same("close alone", 2, x.totalClosed());
        Check.same("close alone, 14 away", BlastPlanner.CROWDED, x.reason(1, 714));
        Texts.load(x, "space 1;" + two);
        x.schedule(0, 700);
        Check.same("space alone", 15, x.totalClosed());
        Check.same("space alone, 1 away", BlastPlanner.ALLOWED, x.reason(1, 701));
    }

    private static void noActionAfterLoad() {
        BlastPlanner x = Texts.loaded(BLAST);
        for (int i = 0; i < 17; i++) {
            x.schedule(0, 500 + i);
        }
        Texts.type(x, "?");
        Check.badArgument("a wrong text", x::load);
        Check.same("keeps 16 actions", 16, x.undoDepth());
        Check.same("which can be undone", 15, x.undo());
        Check.same("as before", 515, x.timeOf(0));
        Check.same("a right text", 1, Texts.load(x, BLAST));
        Check.same("keeps none", 0, x.undoDepth());
        Check.same("to undo", -1, x.undo());
        Check.same("all blasts are open", -1, x.timeOf(0));
        x.retime(0, 0);
        Check.same("the first action again", 0, x.undo());
        Check.same("undone to the text's delays", 5, x.delay(0, 0));
    }

    private static void errorOfTheLatestLoad() {
        BlastPlanner x = new BlastPlanner();
        state("before the first load", x, -1, 0);
        Texts.type(x, "step 0;");
        state("before load", x, -1, 0);
        Check.outcome(x::load);
        state("after an error", x, 5, BlastPlanner.BAD_NUMBER);
        x.truncate(0);
        x.undo();
        state("until the next load", x, 5, BlastPlanner.BAD_NUMBER);
        Texts.type(x, "?");
        Check.outcome(x::load);
        state("after another error", x, 0, BlastPlanner.SYNTAX);
        x.load();
        state("after the empty text", x, -1, 0);
    }

    // ---- the grammar

    private static void everyByteBetweenTokens() {
        for (char c = 0; c < 256; c++) {
            String text = "close" + c + "9" + c + "9" + c + ";";
            String what = "byte " + (int) c + " between tokens";
            if (isSpace(c)) {
                right(what, text);
            } else if (isDigit(c)) {
                error(what, text, 5, BlastPlanner.BAD_NUMBER);
            } else {
                error(what, text, isLetter(c) ? 0 : 5, BlastPlanner.SYNTAX);
            }
        }
    }

    private static void everyByteAroundTheText() {
        for (char c = 0; c < 256; c++) {
            if (isSpace(c)) {
                right("byte " + (int) c + " around the text", c + "step 9;" + c);
            } else {
                error("byte " + (int) c + " in front", c + " step 9;", 0, BlastPlanner.SYNTAX);
                error("byte " + (int) c + " before the word", c + "step 9;", 0, BlastPlanner.SYNTAX);
                error("byte " + (int) c + " behind", "step 9;" + c, 7, BlastPlanner.SYNTAX);
                error("byte " + (int) c + " in place of the semicolon", "step 9 " + c,
                        c == ';' ? 8 : 7, c == ';' ? 0 : BlastPlanner.SYNTAX);
            }
        }
    }

    private static void lettersOfAWord() {
        for (char c = 0; c < 256; c++) {
            String text = "road " + c + " 1 2 3 4;";
            if (isLetter(c)) {
                right("name " + c, text);
                right("name a" + c, "road a" + c + " 1 2 3 4;");
            } else if (isSpace(c)) {
                error("no name", text, 7, BlastPlanner.SYNTAX);
            } else {
                error("name of byte " + (int) c, text, 5, BlastPlanner.SYNTAX);
                error("byte " + (int) c + " behind a letter", "road a" + c + ";",
                        isDigit(c) ? 7 : 6, BlastPlanner.SYNTAX);
            }
        }
    }

    /** A name is a word of 1 to 6 letters; a keyword can be a name, too. */
    private static void lengthOfAName() {
        String[] lines = {"near # 1 2 3;", "road # 1 2 3 4;", "blast # 1 2 3 4 at 5;"};
        for (String line : lines) {
            for (int length = 1; length <= 6; length++) {
                right(line + " of " + length, line.replace("#", "z".repeat(length)));
            }
            int offset = line.indexOf('#');
            error(line + " of 7", line.replace("#", "zzzzzzz"), offset, BlastPlanner.SYNTAX);
            error(line + " of 8", line.replace("#", "abcdefgh"), offset, BlastPlanner.SYNTAX);
            error(line + " of 0", line.replace("# ", ""), offset, BlastPlanner.SYNTAX);
            for (String keyword : "day step close space wind near road blast to at".split(" ")) {
                right(line + " of " + keyword, line.replace("#", keyword));
            }
        }
        // seven letters are no used name, though the first six are
        error("seven", "near zzzzzz 1 2 3;near zzzzzzz 1 2 3;", 23, BlastPlanner.SYNTAX);
    }

    /** A word with one other letter, one letter less or one more is no keyword. */
    private static void lettersOfAKeyword() {
        String[] lines = {"#day#5 6;", "#step#5;", "#close#5 6;", "#space#5;", "#wind#5 6 7;", "#near#a 1 2 3;",
            "near a 1 2 3 4#to#5;", "#road#a 1 2 3 4;", "#blast#a 1 2 3 4 at 5;", "blast a 1 2 3 4#at#5;",
            "near a 1 2 3 4 to 5 6#to#7;", "blast a 1 2 3 4 at 5 6#at#7;"};
        for (String line : lines) {
            String[] parts = line.split("#");
            String word = parts[1];
            int offset = parts[0].length() + 1;
            right(line, parts[0] + " " + word + " " + parts[2]);
            for (int i = 0; i < word.length(); i++) {
                for (char c : new char[] {'a', 'o', 'x', 'z', (char) (word.charAt(i) - 1), (char) (word.charAt(i) + 1)}) {
                    String other = word.substring(0, i) + c + word.substring(i + 1);
                    if (!other.equals(word)) {
                        wrongWord(parts, other, offset);
                    }
                }
                wrongWord(parts, word.substring(0, i) + word.substring(i + 1), offset);
                wrongWord(parts, word.substring(0, i) + "a" + word.substring(i), offset);
                wrongWord(parts, word.substring(0, i) + word.substring(i, i + 1).toUpperCase() + word.substring(i + 1), offset);
            }
            wrongWord(parts, word + "s", offset);
            wrongWord(parts, word + word, offset);
        }
    }

    private static void wrongWord(String[] parts, String word, int offset) {
        if (!word.isEmpty()) {
            error(word + " as a keyword", parts[0] + " " + word + " " + parts[2], offset, BlastPlanner.SYNTAX);
        }
    }

    /** Too many digits are a wrong number in each place, also if the number would be in range. */
    private static void sixDigitsInEachPlace() {
        String[] lines = {"day # 900;", "day 5 #;", "step #;", "close # 5;", "close 5 #;", "space #;", "wind # 5 5;", "wind 5 # 5;",
            "wind 5 5 #;", "near a # 5 5;", "near a 5 # 5;", "near a 5 5 #;", "near a 5 5 5 # to 900;", "near a 5 5 5 5 to #;",
            "near a 5 5 5 5 to 6 # to 900;", "near a 5 5 5 5 to 6 5 to #;", "road a # 5 5 5;", "road a 5 # 5 5;", "road a 5 5 # 5;",
            "road a 5 5 5 #;", "blast a # 5 5 5 at 5;", "blast a 5 # 5 5 at 5;", "blast a 5 5 # 5 at 5;", "blast a 5 5 5 # at 5;",
            "blast a 5 5 5 5 at #;", "blast a 5 5 5 5 at 5 # at 5;", "blast a 5 5 5 5 at 5 5 at #;"};
        for (String line : lines) {
            int offset = line.indexOf('#');
            right(line, line.replace("#", "7"));
            right(line, line.replace("#", "00007"));
            for (String number : new String[] {"000007", "0000007", "4294967303", "123456", "99999999999999999999"}) {
                error(line + " with " + number, line.replace("#", number), offset, BlastPlanner.BAD_NUMBER);
            }
            error(line + " with a minus", line.replace("#", "-7"), offset, BlastPlanner.SYNTAX);
            error(line + " without it", line.substring(0, offset), offset, BlastPlanner.SYNTAX);
        }
    }

    private static void digitsOfANumber() {
        BlastPlanner x = Texts.loaded("near n 1 1 00000;near m 1 1 99999;near k 00001 00001 1;" + "blast a 1 1 1 1 at 0;");
        Check.same("1 to 5 digits", 1, x.blastCount());
        Check.same("a limit of 0", 0b101, x.tooStrongAt(0));
        error("6 digits", "near n 1 1 100000;", 11, BlastPlanner.BAD_NUMBER);
        error("6 digits, though it is 0", "near n 1 1 000000;", 11, BlastPlanner.BAD_NUMBER);
        error("6 digits, though it is 1", "step 000001;", 5, BlastPlanner.BAD_NUMBER);
        error("10 digits", "step 0000000001;", 5, BlastPlanner.BAD_NUMBER);
        for (String wrapped : new String[] {"4294967297", "2147483648", "18446744073709551617", "65537", "257"}) {
            error("a number that wraps", "step " + wrapped + ";", 5, BlastPlanner.BAD_NUMBER);
        }
        for (char c = '0'; c <= '9'; c++) {
            right("digit " + c, "space " + c + ";");
            right("digit " + c, "space 1" + c + ";");
        }
        error("no digits", "space ;", 6, BlastPlanner.SYNTAX);
        error("a minus", "space -1;", 6, BlastPlanner.SYNTAX);
        error("a plus", "space +1;", 6, BlastPlanner.SYNTAX);
        error("a point", "space 1.5;", 7, BlastPlanner.SYNTAX);
    }

    private static void numbersTouchWords() {
        BlastPlanner x = Texts.loaded("step60;near n1 2 3 4to5 6to7;road r1 2 3 4;blast a1 2 3 4at5 6at7;");
        Check.same("no space is needed", 1, x.blastCount());
        Check.same("two windows", 2, x.quietMinutes(0));
        Check.same("two charges", 2, x.chargeCount(0));
        error("words need one", "blasta 1 2 3 4 at 5;", 0, BlastPlanner.SYNTAX);
        error("so do numbers", "close 55;", 8, BlastPlanner.SYNTAX);
        error("a word in a word", "blast a 1 2 3 4 ata 5;", 16, BlastPlanner.SYNTAX);
        error("half a word", "blast a 1 2 3 4 a t 5;", 16, BlastPlanner.SYNTAX);
        error("to for at", "blast a 1 2 3 4 to 5;", 16, BlastPlanner.SYNTAX);
        error("at for to", "near a 1 2 3 4 at 5;", 15, BlastPlanner.SYNTAX);
    }

    /** The last working minute is not less than the first one; a window's second number is greater than its first. */
    private static void secondNumbers() {
        for (int first : new int[] {0, 1, 480, 961, 1438, 1439}) {
            right("a day of one minute", "day " + first + " " + first + ";");
            if (first > 0) {
                error("a day that ends before", "day " + first + " " + (first - 1) + ";", 5 + ("" + first).length(),
                        BlastPlanner.BAD_NUMBER);
            }
            String window = "near n 1 1 1 " + first + " to ";
            right("a window of one minute", window + (first + 1) + ";");
            error("a window of no minute", window + first + ";", window.length(), BlastPlanner.BAD_NUMBER);
        }
        error("a day behind the last minute", "day 1439 1440;", 9, BlastPlanner.BAD_NUMBER);
        error("a window behind the day", "near n 1 1 1 1439 to 1441;", 21, BlastPlanner.BAD_NUMBER);
        error("a window that begins behind the day", "near n 1 1 1 1440 to 1440;", 13, BlastPlanner.BAD_NUMBER);
    }

    /**
     * Below each byte of a line stands what is due when the text ends there: "." the length of the text,
     * "<" the first byte of the cut word, "0" the first byte of a number that is still too small.
     */
    private static void cutTexts() {
        cuts("day 600 720",
             "<<......00.");
        cuts("step 99",
             "<<<....");
        cuts("close 10 10",
             "<<<<.......");
        cuts("space 99",
             "<<<<....");
        cuts("wind 23 7 20",
             "<<<.........");
        cuts("near ab 11 22 33 44 to 555 66 to 777",
             "<<<.................<..0......<..0..");
        cuts("road ab 11 22 33 44",
             "<<<................");
        cuts("blast ab 11 22 33 44 at 55 66 at 77",
             "<<<<.................<........<....");
    }

    private static void cuts(String line, String due) {
        for (int end = 1; end <= line.length(); end++) {
            String text = line.substring(0, end);
            char mark = due.charAt(end - 1);
            int offset = mark == '.' ? end : text.lastIndexOf(' ') + 1;
            int kind = mark == '0' ? BlastPlanner.BAD_NUMBER : BlastPlanner.SYNTAX;
            error("'" + text + "'", text, offset, kind);
            error("'" + text + "' behind a line", "step 1;" + text, offset + 7, kind);
            error("'" + text + "' and spaces", text + " \t\n", mark == '.' ? end + 3 : offset, kind);
        }
        right(line, line + ";");
    }

    private static void linesWithoutEnd() {
        error("no semicolon before the next line", "step 5 step 6;", 7, BlastPlanner.SYNTAX);
        error("no semicolon behind the last line", "step 5;step 6", 13, BlastPlanner.SYNTAX);
        error("two semicolons", "step 5;;", 7, BlastPlanner.SYNTAX);
        error("one semicolon", ";", 0, BlastPlanner.SYNTAX);
        error("a number too many", "step 5 6;", 7, BlastPlanner.SYNTAX);
        error("a number too few", "close 5;", 7, BlastPlanner.SYNTAX);
        error("a comma", "step 5,", 6, BlastPlanner.SYNTAX);
    }

    private static void lastValueCounts() {
        BlastPlanner x = Texts.loaded("day 0 1439;day 600 600;step 1;step 240;close 60 60;close 0 1;space 240;space 0;"
                + "wind 23 2 20;wind 23 6 20;wind 0 2 20;wind 0 2 0;near n 9 0 99;road r 0 0 0 0;"
                + "blast a 0 0 1 1 at 0;blast b 0 0 1 1 at 0;");
        Check.same("day and step", 1, x.startCount());
        Check.same("wind", 0, x.dustHours(0));
        x.schedule(0, 600);
        Check.same("close", 1, x.totalClosed());
        Check.same("space", BlastPlanner.ALLOWED, x.reason(1, 600));
        Texts.load(x, "blast a 0 0 1 1 at 0;blast b 0 0 1 1 at 0;road r 0 0 0 0;near n 9 0 99;"
                + "day 0 1;day 0 1439;step 2;step 1;close 0 0;close 60 60;space 0;space 240;wind 23 6 1;wind 23 2 1;");
        Check.same("settings may stand behind", 1440, x.startCount());
        Check.same("wind at the end", 1 << 23, x.dustHours(0));
        x.schedule(0, 600);
        Check.same("close at the end", 120, x.totalClosed());
        Check.same("space at the end", BlastPlanner.CROWDED, x.reason(1, 839));
        Check.same("space at the end, beyond", BlastPlanner.ALLOWED, x.reason(1, 840));
    }

    // ---- full lists

    private static void fullLists() {
        BlastPlanner x = new BlastPlanner();
        String charges = " 1 at 0".repeat(12);
        String windows = " 1 to 2 3 to 4 5 to 6 7 to 8";
        Check.same("6 blasts", 6, Texts.load(x, lines("blast", 6, "1 1 1" + charges)));
        Check.same("12 charges of the last one", 12, x.chargeCount(5));
        Texts.load(x, lines("near", 8, "1 1 1" + windows));
        Check.same("8 neighbours", 8, x.neighbourCount());
        Check.same("4 windows of the last one", 4, x.quietMinutes(7));
        Texts.load(x, lines("road", 6, "1 1 1 1"));
        Check.same("6 roads", 6, x.roadCount());
        String all = lines("near", 8, "1 1 1") + lines("road", 6, "1 1 1 1") + lines("blast", 6, "1 1 1 1 at 1");
        Check.same("all of them", 6, Texts.load(x, all));
        Check.same("all neighbours", 8, x.neighbourCount());
        Check.same("all roads", 6, x.roadCount());
        Check.same("a second time", 6, Texts.load(x, all));
    }

    private static void oneTooMany() {
        String near = lines("near", 8, "1 1 1");
        String road = lines("road", 6, "1 1 1 1");
        String blast = lines("blast", 6, "1 1 1 1 at 1");
        error("a 9th neighbour", near + "near z 1 1 1;", near.length(), BlastPlanner.TOO_MANY);
        error("a 7th road", road + "road z 1 1 1 1;", road.length(), BlastPlanner.TOO_MANY);
        error("a 7th blast", blast + "blast z 1 1 1 1 at 1;", blast.length(), BlastPlanner.TOO_MANY);
        String seventh = lines("near", 7, "1 1 1");
        right("an 8th neighbour", seventh + "near z 1 1 1;");
        right("a 6th road", lines("road", 5, "1 1 1 1") + "road z 1 1 1 1;");
        right("a 6th blast", lines("blast", 5, "1 1 1 1 at 1") + "blast z 1 1 1 1 at 1;");
        String windows = "near z 1 1 1" + " 1 to 2".repeat(4);
        error("a 5th window", windows + " 1 to 2;", windows.length() + 1, BlastPlanner.TOO_MANY);
        error("a 5th window of the 8th neighbour", seventh + windows + "\n1 to 2;",
                seventh.length() + windows.length() + 1, BlastPlanner.TOO_MANY);
        String charges = "blast z 1 1 1" + " 1 at 2".repeat(12);
        error("a 13th charge", charges + " 1 at 2;", charges.length() + 1, BlastPlanner.TOO_MANY);
        right("windows are counted by neighbour", windows + ";" + windows.replace('z', 'y') + ";");
        right("charges are counted by blast", charges + ";" + charges.replace('z', 'y') + ";");
    }

    private static void tooManyBeforeOtherErrors() {
        String near = lines("near", 8, "1 1 1");
        for (String rest : new String[] {"near", "near a 1 1 1;", "near ABC", "near 123456", "near;", "near abcdefg"}) {
            error("9th: " + rest, near + rest, near.length(), BlastPlanner.TOO_MANY);
        }
        for (String rest : new String[] {"nea", "nears z 1 1 1;", "nearz 1 1 1;", "roads"}) {
            error("no 9th: " + rest, near + rest, near.length(), BlastPlanner.SYNTAX);
        }
        String windows = "near z 1 1 1" + " 1 to 2".repeat(4);
        String charges = "blast z 1 1 1" + " 1 at 2".repeat(12);
        for (String rest : new String[] {"0", "5", "1440 to 9", "99999", "123456", "1000000 to 1", "0 at", "7 at 10000", "9;"}) {
            error("5th window: " + rest, windows + " " + rest, windows.length() + 1, BlastPlanner.TOO_MANY);
            error("13th charge: " + rest, charges + " " + rest, charges.length() + 1, BlastPlanner.TOO_MANY);
        }
        for (String rest : new String[] {"to 5", "at 5", "x", "?", "-1"}) {
            error("no 5th window: " + rest, windows + " " + rest, windows.length() + 1, BlastPlanner.SYNTAX);
            error("no 13th charge: " + rest, charges + " " + rest, charges.length() + 1, BlastPlanner.SYNTAX);
        }
        error("the 4th window is wrong itself", "near z 1 1 1" + " 1 to 2".repeat(3) + " 1440 to 2", 34, BlastPlanner.BAD_NUMBER);
        error("the 12th charge is wrong itself", "blast z 1 1 1" + " 1 at 2".repeat(11) + " 0 at 2", 91, BlastPlanner.BAD_NUMBER);
    }

    private static void usedNames() {
        String near = lines("near", 7, "1 1 1");
        String road = lines("road", 5, "1 1 1 1");
        String blast = lines("blast", 5, "1 1 1 1 at 1");
        error("the first neighbour's", near + "near a 1 1 1;", near.length() + 5, BlastPlanner.BAD_NAME);
        error("the last neighbour's", near + "near g 1 1 1;", near.length() + 5, BlastPlanner.BAD_NAME);
        error("the first road's", road + "road a 1 1 1 1;", road.length() + 5, BlastPlanner.BAD_NAME);
        error("the last road's", road + "road e 1 1 1 1;", road.length() + 5, BlastPlanner.BAD_NAME);
        error("the first blast's", blast + "blast a 1 1 1 1 at 1;", blast.length() + 6, BlastPlanner.BAD_NAME);
        error("the last blast's", blast + "blast\n e", blast.length() + 7, BlastPlanner.BAD_NAME);
        error("of six letters", "road zzzzzz 1 1 1 1;road zzzzzz", 25, BlastPlanner.BAD_NAME);
        right("six letters, five the same", "road zzzzzz 1 1 1 1;road azzzzz 1 1 1 1;road zzzzza 1 1 1 1;road zzzzz 1 1 1 1;");
        right("once in each kind", "near a 1 1 1;road a 1 1 1 1;blast a 1 1 1 1 at 1;");
        right("a letter more", "near a 1 1 1;near aa 1 1 1;near aaa 1 1 1;near aaaa 1 1 1;near aaaaa 1 1 1;near aaaaaa 1 1 1;");
    }

    private static void mixedErrors() {
        error("the first of two", "day 1440 1440;step 0;", 4, BlastPlanner.BAD_NUMBER);
        error("a name before its numbers", "near a 1 1 1;near a 1000 1 1;", 18, BlastPlanner.BAD_NAME);
        error("a number before a name", "near a 1000 1 1;near a 1 1 1;", 7, BlastPlanner.BAD_NUMBER);
        error("a number where a word is due", "5 6;", 0, BlastPlanner.SYNTAX);
        error("a word where a number is due", "day six 6;", 4, BlastPlanner.SYNTAX);
        error("a number where a name is due", "near 5 1 1 1;", 5, BlastPlanner.SYNTAX);
        error("a charge without a delay", "blast a 1 2 3 4 at ;", 19, BlastPlanner.SYNTAX);
        error("a blast without charges", "blast a 1 2 3;", 13, BlastPlanner.SYNTAX);
    }

    // ---- helpers

    private static int spaces(BlastPlanner x) {
        return x.append(SPACES, SPACES, SPACES, SPACES, SPACES);
    }

    private static void fill(BlastPlanner x, int length) {
        while (!x.truncate(length)) {
            if (spaces(x) == BlastPlanner.NONE) {
                throw new IllegalStateException("a buffer of " + length + " bytes cannot be filled");
            }
        }
    }

    private static boolean isSpace(char c) {
        return c == 32 || c == 9 || c == 10;
    }

    private static boolean isDigit(char c) {
        return c >= '0' && c <= '9';
    }

    private static boolean isLetter(char c) {
        return c >= 'a' && c <= 'z';
    }

    private static String lines(String word, int count, String rest) {
        StringBuilder text = new StringBuilder();
        for (int i = 0; i < count; i++) {
            text.append(word).append(' ').append((char) ('a' + i)).append(' ').append(rest).append(';');
        }
        return text.toString();
    }

    private static void right(String what, String text) {
        error(what, text, -1, 0);
    }

    private static void error(String what, String text, int offset, int kind) {
        BlastPlanner x = new BlastPlanner();
        Texts.type(x, text);
        wrong(what, x, kind == 0 ? -1 : offset, kind);
    }

    /** Loads what is in the buffer; kind 0 says that it is right. */
    private static void wrong(String what, BlastPlanner x, int offset, int kind) {
        String got = Check.outcome(x::load);
        Check.same(what + ": refused, got " + got, kind != 0, got.equals("java.lang.IllegalArgumentException"));
        state(what, x, offset, kind);
    }

    private static void state(String what, BlastPlanner x, int offset, int kind) {
        Check.same(what + ": offset", offset, x.errorOffset());
        Check.same(what + ": kind", kind, x.errorKind());
    }
}
