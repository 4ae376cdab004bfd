import java.nio.charset.StandardCharsets;

/** Puts texts into a planner and takes the formatted text out. */
final class Texts {
    private Texts() {
    }

    static BlastPlanner loaded(String text) {
        BlastPlanner planner = new BlastPlanner();
        load(planner, text);
        return planner;
    }

    static int load(BlastPlanner planner, String text) {
        type(planner, text);
        return planner.load();
    }

    static void type(BlastPlanner planner, String text) {
        byte[] bytes = text.getBytes(StandardCharsets.ISO_8859_1);
        planner.truncate(0);
        for (int at = 0; at < bytes.length; at += 20) {
            planner.append(word(bytes, at), word(bytes, at + 4), word(bytes, at + 8),
                    word(bytes, at + 12), word(bytes, at + 16));
        }
        planner.truncate(bytes.length);
    }

    static int word(byte[] bytes, int at) {
        int word = 0;
        for (int i = at; i < at + 4; i++) {
            word = word << 8 | (i < bytes.length ? bytes[i] & 255 : 0);
        }
        return word;
    }

    static String formatted(BlastPlanner planner) {
        StringBuilder text = new StringBuilder();
        for (int i = 0; planner.formattedByte(i) != BlastPlanner.NONE; i++) {
            text.append((char) planner.formattedByte(i));
        }
        return text.toString();
    }
}
