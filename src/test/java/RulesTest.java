import java.io.DataInputStream;
import java.io.IOException;
import java.io.InputStream;
import java.util.ArrayList;
import java.util.Arrays;
import java.util.HashSet;
import java.util.List;
import java.util.Set;

/** The rules of LANGUAGE.md that the compiled classes show: which of the library they use, and how. */
public final class RulesTest {
    private static final String[] LIBRARY = {"java/lang/Object", "java/lang/String", "java/lang/Math", "java/lang/Integer",
        "java/lang/IllegalArgumentException", "java/lang/IllegalStateException", "java/lang/IndexOutOfBoundsException"};
    private static final String[] CALLS = {"java/lang/Object.<init>()V", "java/lang/String.length()I",
        "java/lang/String.charAt(I)C", "java/lang/Math.max(II)I", "java/lang/Math.min(II)I", "java/lang/Math.abs(I)I",
        "java/lang/Integer.bitCount(I)I", "java/lang/IllegalArgumentException.<init>(Ljava/lang/String;)V",
        "java/lang/IllegalStateException.<init>(Ljava/lang/String;)V",
        "java/lang/IndexOutOfBoundsException.<init>(Ljava/lang/String;)V"};
    private static final int MOST_SIGN = 127;

    private final Set<String> classes = new HashSet<>();
    private final Set<String> calls = new HashSet<>();
    private final List<String> texts = new ArrayList<>();
    private int dynamic;

    public static void main(String[] args) throws IOException {
        RulesTest all = new RulesTest();
        all.read(BlastPlanner.class);
        for (Class<?> inside : BlastPlanner.class.getDeclaredClasses()) {
            all.read(inside);
        }
        all.compare();
        Check.finish("RulesTest");
    }

    private void compare() {
        Check.same("lambdas, joined texts and their like", 0, dynamic);
        for (String name : classes) {
            boolean own = name.startsWith("BlastPlanner") || name.startsWith("[");
            Check.same(name + " may be used", true, own || Arrays.asList(LIBRARY).contains(name));
        }
        for (String call : calls) {
            Check.same(call + " may be called", true, !call.startsWith("java") || Arrays.asList(CALLS).contains(call));
        }
        for (String text : texts) {
            boolean plain = text.chars().allMatch(sign -> sign >= 1 && sign <= MOST_SIGN);
            Check.same("text of plain signs: " + text, true, plain);
        }
        Check.same("the pools are read", true, calls.contains("java/lang/String.charAt(I)C") && texts.contains("blast"));
    }

    private void read(Class<?> c) throws IOException {
        try (InputStream file = c.getResourceAsStream("/" + c.getName() + ".class")) {
            DataInputStream in = new DataInputStream(file);
            in.readLong();
            int size = in.readUnsignedShort();
            int[] tags = new int[size];
            int[] first = new int[size];
            int[] second = new int[size];
            String[] utf = new String[size];
            for (int i = 1; i < size; i++) {
                tags[i] = in.readUnsignedByte();
                switch (tags[i]) {
                    case 1 -> utf[i] = in.readUTF();
                    case 3, 4 -> in.readInt();
                    case 5, 6 -> in.readLong();
                    case 7, 8, 16, 19, 20 -> first[i] = in.readUnsignedShort();
                    case 15 -> {
                        in.readUnsignedByte();
                        in.readUnsignedShort();
                    }
                    default -> {
                        first[i] = in.readUnsignedShort();
                        second[i] = in.readUnsignedShort();
                    }
                }
                // a long or a double takes two places
                i += tags[i] == 5 || tags[i] == 6 ? 1 : 0;
            }
            sort(tags, first, second, utf);
        }
    }

    private void sort(int[] tags, int[] first, int[] second, String[] utf) {
        for (int i = 1; i < tags.length; i++) {
            switch (tags[i]) {
                case 7 -> classesOf(utf[first[i]]);
                case 8 -> texts.add(utf[first[i]]);
                case 10, 11 -> calls.add(utf[first[first[i]]] + "." + utf[first[second[i]]] + utf[second[second[i]]]);
                case 15, 16, 17, 18 -> dynamic++;
                default -> { }
            }
        }
    }

    /** Names the class, but for what holds the classes inside together. */
    private void classesOf(String name) {
        if (!name.equals("java/lang/invoke/MethodHandles$Lookup")) {
            classes.add(name);
        }
    }
}
