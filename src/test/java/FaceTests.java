import java.io.IOException;
import java.lang.management.ManagementFactory;
import java.lang.reflect.Constructor;
import java.lang.reflect.Field;
import java.lang.reflect.Method;
import java.lang.reflect.Modifier;
import java.nio.file.Files;
import java.nio.file.Path;
import java.util.Arrays;
import java.util.Set;
import java.util.TreeSet;
import java.util.regex.Pattern;

/** The public face, the room that calls take, and those rules of LANGUAGE.md that can be seen by a plain look. */
final class FaceTests {
    private static final String[] FACE = {
        "append(int)", "clearText()", "errorPosition()", "load()", "about(int)", "bus(int,int)", "charger(int,int)",
        "sign(int,int)", "setting(int)", "addBus(int,int,int,int,int)", "addCharger(int)", "route(int,int,int,int)",
        "battery(int,int)", "run(int)", "set(int,int)", "undo()", "coming(int,int)", "firstMissed(int)",
        "leastLimit(int)", "bestNight(int)", "ifPlugged(int,int)", "runScript(int,long)", "simulate(long,int)",
        "save(int)", "restore(int)"};

    private final Checks checks;

    FaceTests(Checks checks) {
        this.checks = checks;
    }

    void runAll(String source, String document) {
        face();
        faceIsAsWritten(source, document);
        nothingElseIsSeen();
        noNameTwice();
        room();
        language(source);
    }

    private static String told(Method method) {
        StringBuilder all = new StringBuilder(method.getName()).append('(');
        String comma = "";
        for (Class<?> type : method.getParameterTypes()) {
            all.append(comma).append(type.getName());
            comma = ",";
        }
        return all.append(')').toString();
    }

    private void face() {
        checks.same("the class", "public final", Modifier.toString(DepotCharge.class.getModifiers()));
        Set<String> methods = new TreeSet<>();
        for (Method method : DepotCharge.class.getDeclaredMethods()) {
            if (Modifier.isPublic(method.getModifiers())) {
                methods.add(told(method));
                checks.same("what " + method.getName() + " answers", "int", method.getReturnType().getName());
                checks.same(method.getName(), "public", Modifier.toString(method.getModifiers()));
            }
        }
        checks.same("the methods", new TreeSet<>(Arrays.asList(FACE)).toString(), methods.toString());
        Constructor<?>[] constructors = DepotCharge.class.getDeclaredConstructors();
        checks.same("the constructors", "[public DepotCharge()]", Arrays.toString(constructors));
        checks.same("the public fields", "[public static final int DepotCharge.NONE]",
            Arrays.toString(DepotCharge.class.getFields()));
    }

    /** Each line of the document's public face stands in the class, with its exceptions. */
    private void faceIsAsWritten(String source, String document) {
        try {
            String code = Files.readString(Path.of(source)).replaceAll("\\s+", " ");
            int lines = 0;
            for (String line : Files.readAllLines(Path.of(document))) {
                if (line.matches("( {4})?public .*[;{]")) {
                    lines++;
                    String due = line.trim().replaceAll(";$", line.contains("=") ? ";" : " {");
                    checks.same("the class says: " + due, 1, code.contains(due) ? 1 : 0);
                }
            }
            checks.same("the lines of the face", FACE.length + 3, lines);
        } catch (IOException e) {
            checks.same("reading the face", "a text", e.toString());
        }
    }

    private void nothingElseIsSeen() {
        for (Method method : DepotCharge.class.getDeclaredMethods()) {
            int kind = method.getModifiers();
            checks.same("hidden: " + method, 1, Modifier.isPublic(kind) || Modifier.isPrivate(kind) ? 1 : 0);
        }
        for (Field field : DepotCharge.class.getDeclaredFields()) {
            int kind = field.getModifiers();
            checks.same("hidden: " + field, 1, Modifier.isPublic(kind) || Modifier.isPrivate(kind) ? 1 : 0);
            checks.same("no static state: " + field, 1,
                !Modifier.isStatic(kind) || Modifier.isFinal(kind) ? 1 : 0);
        }
        for (Class<?> inside : DepotCharge.class.getDeclaredClasses()) {
            checks.same("static: " + inside, 1, Modifier.isStatic(inside.getModifiers()) ? 1 : 0);
            checks.same("not public: " + inside, 0, Modifier.isPublic(inside.getModifiers()) ? 1 : 0);
        }
    }

    private void noNameTwice() {
        Set<String> names = new TreeSet<>();
        for (String call : FACE) {
            names.add(call.substring(0, call.indexOf('(')));
        }
        for (Method method : DepotCharge.class.getDeclaredMethods()) {
            if (!Modifier.isPublic(method.getModifiers())) {
                checks.same("a name of its own: " + method, 0, names.contains(method.getName()) ? 1 : 0);
            }
        }
    }

    /** The dearest calls make nothing, but for the few letters of a sign. */
    private void room() {
        DepotCharge x = new DepotCharge();
        for (int b = 0; b < 8; b++) {
            x.addBus(100 + b, 50, 60, b, b + 8);
        }
        for (int c = 0; c < 4; c++) {
            x.addCharger(10 + c);
        }
        long before = allocated();
        for (int i = 0; i < 40; i++) {
            x.leastLimit(72);
            x.bestNight(72);
            x.ifPlugged(9, 72);
            x.runScript(3, 100481004880000L);
            x.simulate(i, 30);
            x.coming(72, 0);
            x.firstMissed(i % 8);
            x.bus(i % 8, 7);
            x.sign(i % 8, 3);
            x.run(48);
            x.save(1);
        }
        long bytes = allocated() - before;
        checks.same("room of 440 calls (" + bytes + " bytes)", 1, bytes < 100000 ? 1 : 0);
    }

    private static long allocated() {
        com.sun.management.ThreadMXBean threads =
            (com.sun.management.ThreadMXBean) ManagementFactory.getThreadMXBean();
        return threads.getThreadAllocatedBytes(Thread.currentThread().getId());
    }

    private void language(String source) {
        String code;
        try {
            code = Files.readString(Path.of(source));
        } catch (IOException e) {
            checks.same("reading " + source, "a text", e.toString());
            return;
        }
        String[] words = {"import", "package", "catch", "finally", "synchronized", "assert", "instanceof",
            "toString", "hashCode", "protected", "System\\.out", "->", "::", "Exact", "static \\{"};
        for (String word : words) {
            String bounded = Character.isLetter(word.charAt(0)) ? "\\b" + word : word;
            checks.same("no " + word, 0, Pattern.compile(bounded).matcher(code).find() ? 1 : 0);
        }
    }
}
