import java.io.IOException;
import java.lang.reflect.Constructor;
import java.lang.reflect.Field;
import java.lang.reflect.Method;
import java.lang.reflect.Modifier;
import java.nio.file.Files;
import java.nio.file.Path;
import java.util.ArrayList;
import java.util.Arrays;
import java.util.HashSet;
import java.util.List;
import java.util.Set;
import java.util.TreeSet;

/** The public face of the class, and the rules of LANGUAGE.md that can be seen from outside. */
public final class FaceTest {
    private static final String INDEX = "IndexOutOfBoundsException";
    private static final String ARGUMENT = "IllegalArgumentException";
    private static final String STATE = "IllegalStateException";

    private static final String[] CONSTANTS = {"NONE=-1", "ALLOWED=0", "OUT_OF_HOURS=1", "VIBRATION=2", "QUIET=3",
        "DUST=4", "CROWDED=5", "WARNING=0", "FINAL_WARNING=1", "ALL_CLEAR=2", "SYNTAX=1", "BAD_NUMBER=2",
        "BAD_NAME=3", "TOO_MANY=4"};

    /** The name of a method, its number of int parameters, and what it may throw. */
    private static final String[] METHODS = {"int append 5", "boolean truncate 1", "int load 0 " + ARGUMENT,
        "int errorOffset 0", "int errorKind 0", "int blastCount 0", "int neighbourCount 0", "int roadCount 0",
        "int startCount 0", "int chargeCount 1 " + INDEX, "int chargeSize 2 " + INDEX, "int delay 2 " + INDEX,
        "int totalSize 1 " + INDEX, "int delaySpan 1 " + INDEX, "int windowSize 1 " + INDEX, "int windowStart 1 " + INDEX,
        "int vibration 2 " + INDEX, "int mostShaken 1 " + INDEX, "int tooStrongAt 1 " + INDEX, "int neededGap 2 " + INDEX,
        "int vibrationIfGap 3 " + INDEX + " " + ARGUMENT, "boolean closes 2 " + INDEX, "int closedBy 1 " + INDEX,
        "boolean isQuiet 2 " + INDEX, "int dustAt 2 " + INDEX + " " + ARGUMENT, "int neededRadius 2 " + INDEX,
        "int quietMinutes 1 " + INDEX, "int dustHours 1 " + INDEX, "int timeOf 1 " + INDEX, "boolean isFired 1 " + INDEX,
        "int reason 2 " + INDEX + " " + ARGUMENT, "int earliest 2 " + INDEX + " " + ARGUMENT,
        "int latest 2 " + INDEX + " " + ARGUMENT, "int reasonCount 2 " + INDEX + " " + ARGUMENT,
        "int longestAllowed 1 " + INDEX, "int allowedCount 1 " + INDEX, "int nextBlast 1",
        "int schedule 2 " + INDEX + " " + ARGUMENT + " " + STATE, "int cancel 1 " + INDEX + " " + STATE,
        "int fire 1 " + INDEX + " " + STATE, "int retime 2 " + INDEX + " " + ARGUMENT + " " + STATE,
        "int closedMinutes 1 " + INDEX, "int totalClosed 0", "boolean isClosed 2 " + INDEX, "int closures 1 " + INDEX,
        "int closureStart 2 " + INDEX, "int closureLength 2 " + INDEX, "int openMinutes 3 " + INDEX + " " + ARGUMENT,
        "int sharedMinutes 2 " + INDEX, "int busiestHour 0", "int sirenCount 0", "int sirenMinute 1 " + ARGUMENT,
        "int sirenKind 1 " + ARGUMENT, "int sirenBlast 1 " + ARGUMENT, "int planLength 0 " + STATE,
        "int planTime 1 " + INDEX + " " + STATE, "int applyPlan 0 " + STATE, "int undo 0", "int undoDepth 0",
        "int format 1 " + INDEX, "int formattedByte 1"};

    public static void main(String[] args) throws IOException, IllegalAccessException {
        faceOfMethods();
        faceOfFields();
        classesInside();
        if (args.length > 0) {
            source(Files.readAllLines(Path.of(args[0])));
        }
        Check.finish("FaceTest");
    }

    private static void faceOfMethods() {
        Set<String> found = new TreeSet<>();
        Set<String> publicNames = new HashSet<>();
        for (Method m : BlastPlanner.class.getDeclaredMethods()) {
            if (Modifier.isPublic(m.getModifiers())) {
                publicNames.add(m.getName());
                StringBuilder face = new StringBuilder();
                face.append(m.getReturnType()).append(' ').append(m.getName()).append(' ').append(m.getParameterCount());
                for (Class<?> thrown : m.getExceptionTypes()) {
                    face.append(' ').append(thrown.getSimpleName());
                }
                boolean ints = Arrays.stream(m.getParameterTypes()).allMatch(t -> t == int.class);
                Check.same(m.getName() + " takes ints", true, ints);
                Check.same(m.getName() + " is of the object", false, Modifier.isStatic(m.getModifiers()));
                found.add(face.toString());
            }
        }
        Check.same("public methods", new TreeSet<>(Arrays.asList(METHODS)).toString(), found.toString());
        for (Class<?> c : everyClass()) {
            for (Method m : c.getDeclaredMethods()) {
                boolean hidden = Modifier.isPrivate(m.getModifiers());
                if (c == BlastPlanner.class) {
                    Check.same(m.getName() + " is public or private", true, hidden || Modifier.isPublic(m.getModifiers()));
                }
                Check.same("private " + m.getName(), false, hidden && publicNames.contains(m.getName()));
                Check.same(m.getName() + " takes at most seven", true, m.getParameterCount() <= 7);
            }
        }
    }

    private static void faceOfFields() throws IllegalAccessException {
        List<String> found = new ArrayList<>();
        for (Field f : BlastPlanner.class.getDeclaredFields()) {
            if (Modifier.isPublic(f.getModifiers())) {
                found.add(f.getName() + "=" + f.getInt(null));
            } else {
                Check.same(f.getName() + " is private", true, Modifier.isPrivate(f.getModifiers()));
            }
        }
        Check.same("constants", Arrays.toString(CONSTANTS), found.toString());
        for (Class<?> c : everyClass()) {
            int own = 0;
            for (Field f : c.getDeclaredFields()) {
                boolean constant = Modifier.isStatic(f.getModifiers());
                own += constant ? 0 : 1;
                Check.same(f.getName() + ": static ones are final", true, !constant || Modifier.isFinal(f.getModifiers()));
            }
            Check.same(c.getSimpleName() + " has few fields", true, own <= 20);
        }
    }

    private static void classesInside() {
        Check.same("public and final", Modifier.PUBLIC | Modifier.FINAL, BlastPlanner.class.getModifiers());
        Constructor<?>[] constructors = BlastPlanner.class.getDeclaredConstructors();
        Check.same("constructors", 1, constructors.length);
        Check.same("the constructor is public", true, Modifier.isPublic(constructors[0].getModifiers()));
        Check.same("it takes nothing", 0, constructors[0].getParameterCount());
        Class<?>[] inside = BlastPlanner.class.getDeclaredClasses();
        Check.same("at most twelve classes", true, inside.length <= 11);
        for (Class<?> c : inside) {
            Check.same(c.getSimpleName() + " is static", true, Modifier.isStatic(c.getModifiers()));
            Check.same(c.getSimpleName() + " is not public", false, Modifier.isPublic(c.getModifiers()));
            Check.same(c.getSimpleName() + " is not protected", false, Modifier.isProtected(c.getModifiers()));
        }
    }

    private static List<Class<?>> everyClass() {
        List<Class<?>> all = new ArrayList<>(Arrays.asList(BlastPlanner.class.getDeclaredClasses()));
        all.add(BlastPlanner.class);
        return all;
    }

    private static void source(List<String> lines) {
        String[] ruledOut = {"import ", "package ", "->", "::", "finally", "synchronized", "assert ", "catch", "Exact(",
            "static {", "getMessage", "random", "Random", "System.", "Thread", "StackTrace", "Object", "hashCode", "toString"};
        int start = 0;
        for (int i = 0; i < lines.size(); i++) {
            String line = lines.get(i);
            for (String word : ruledOut) {
                Check.same("line " + (i + 1) + " has " + word, false, line.contains(word));
            }
            Check.same("line " + (i + 1) + " is of plain signs", true, line.matches("[\\x20-\\x7e]*"));
            if (line.endsWith(") {") && line.matches(" {4}( {4})?[a-z].*") && !line.trim().startsWith("}")) {
                start = i;
            }
            if (line.equals("    }") || line.equals("        }")) {
                boolean isMethod = start > 0;
                Check.same("line " + (i + 1) + " ends a short method", true, !isMethod || i - start < 60);
                start = 0;
            }
        }
    }
}
