import java.io.ByteArrayOutputStream;
import java.io.File;
import java.io.IOException;
import java.io.PrintStream;
import java.lang.management.ManagementFactory;
import java.lang.reflect.Constructor;
import java.lang.reflect.Field;
import java.lang.reflect.Method;
import java.lang.reflect.Modifier;
import java.net.URISyntaxException;
import java.nio.file.Files;
import java.nio.file.Path;
import java.util.ArrayList;
import java.util.Arrays;
import java.util.HashMap;
import java.util.List;
import java.util.Map;
import java.util.Set;
import java.util.TreeSet;
import java.util.regex.Matcher;
import java.util.regex.Pattern;
import java.util.spi.ToolProvider;

/** What of ../shared/LANGUAGE.md can be seen from the compiled class, and its face as ../shared/DOC.md has it. */
public final class LanguageTest {
    private static final int DEEPEST = 8;
    private static final Set<String> LIBRARY = Set.of("java/lang/Object.\"<init>\"", "java/lang/Math.abs",
        "java/lang/Math.min", "java/lang/Math.max", "java/lang/System.arraycopy",
        "java/lang/IllegalArgumentException.\"<init>\"", "java/lang/IllegalStateException.\"<init>\"",
        "java/lang/IndexOutOfBoundsException.\"<init>\"");
    private static final Set<String> WITH_ARRAYS = Set.of("CrossedSheet$Numbers", "CrossedSheet$Shelf");

    private static int wrong = 0;

    private static void check(boolean holds, String otherwise) {
        if (!holds) {
            wrong++;
            System.out.println(otherwise);
        }
    }

    private static List<String> faceOfDocument() throws IOException {
        List<String> face = new ArrayList<>();
        Matcher line = Pattern.compile("(?m)^    public (\\w+) (\\w+)\\((.*?)\\)(?: throws (.*))?;$")
            .matcher(Files.readString(Path.of("../shared/DOC.md")));
        while (line.find()) {
            List<String> types = new ArrayList<>();
            for (String parameter : line.group(3).split(", ")) {
                types.add(parameter.split(" ")[0]);
            }
            String thrown = line.group(4) == null ? "" : line.group(4);
            face.add(line.group(1) + " " + line.group(2) + types + " " + thrown);
        }
        face.sort(null);
        return face;
    }

    private static List<String> faceOfClass() {
        List<String> face = new ArrayList<>();
        for (Method method : CrossedSheet.class.getDeclaredMethods()) {
            if (Modifier.isPrivate(method.getModifiers())) {
                continue;
            }
            check(method.getModifiers() == Modifier.PUBLIC, method + " is not just public");
            List<String> types = new ArrayList<>();
            for (Class<?> type : method.getParameterTypes()) {
                types.add(type.getSimpleName());
            }
            List<String> thrown = new ArrayList<>();
            for (Class<?> type : method.getExceptionTypes()) {
                thrown.add(type.getSimpleName());
            }
            face.add(method.getReturnType() + " " + method.getName() + (types.isEmpty() ? List.of("") : types) + " "
                + String.join(", ", thrown));
        }
        face.sort(null);
        return face;
    }

    private static void checkFace() throws IOException {
        List<String> due = faceOfDocument();
        List<String> got = faceOfClass();
        check(due.size() == 30, "the document has 30 methods, read were " + due.size());
        check(due.equals(got), "the face is\n" + got + "\nand the document's\n" + due);
        check(CrossedSheet.class.getModifiers() == (Modifier.PUBLIC | Modifier.FINAL), "not public and final");
        for (Field field : CrossedSheet.class.getDeclaredFields()) {
            boolean isPrivate = Modifier.isPrivate(field.getModifiers());
            check(isPrivate || field.getName().equals("NONE"), field + " is not private");
        }
        Constructor<?>[] constructors = CrossedSheet.class.getDeclaredConstructors();
        check(constructors.length == 1 && Modifier.isPublic(constructors[0].getModifiers())
            && constructors[0].getParameterCount() == 0, "not just the public constructor");
    }

    private static void checkClassesInside() {
        Set<String> publicNames = new TreeSet<>();
        for (Method method : CrossedSheet.class.getDeclaredMethods()) {
            if (Modifier.isPublic(method.getModifiers())) {
                publicNames.add(method.getName());
            }
        }
        List<Class<?>> classes = new ArrayList<>(Arrays.asList(CrossedSheet.class.getDeclaredClasses()));
        check(classes.size() <= 11, "too many classes");
        for (Class<?> inside : classes) {
            check(Modifier.isStatic(inside.getModifiers()), inside + " is not static");
            for (Method method : inside.getDeclaredMethods()) {
                check(!publicNames.contains(method.getName()), method + " bears the name of a public method");
            }
        }
        classes.add(CrossedSheet.class);
        for (Class<?> one : classes) {
            checkFieldsAndParameters(one, publicNames);
        }
    }

    private static void checkFieldsAndParameters(Class<?> one, Set<String> publicNames) {
        int fields = 0;
        for (Field field : one.getDeclaredFields()) {
            boolean isStatic = Modifier.isStatic(field.getModifiers());
            fields += isStatic ? 0 : 1;
            check(!isStatic || Modifier.isFinal(field.getModifiers()), field + " is not final");
        }
        check(fields <= 20, one + " has too many fields");
        for (Method method : one.getDeclaredMethods()) {
            check(method.getParameterCount() <= 7, method + " takes too many parameters");
            check(!Modifier.isPrivate(method.getModifiers()) || !publicNames.contains(method.getName()),
                method + " bears the name of a public method");
        }
    }

    private static String disassembled() throws URISyntaxException {
        File folder = new File(CrossedSheet.class.getProtectionDomain().getCodeSource().getLocation().toURI());
        List<String> arguments = new ArrayList<>(List.of("-c", "-p", "-s"));
        for (String file : folder.list()) {
            if (file.startsWith("CrossedSheet") && !file.startsWith("CrossedSheetRuns")) {
                arguments.add(new File(folder, file).getPath());
            }
        }
        ByteArrayOutputStream out = new ByteArrayOutputStream();
        PrintStream print = new PrintStream(out);
        ToolProvider.findFirst("javap").orElseThrow().run(print, print, arguments.toArray(new String[0]));
        return out.toString();
    }

    /** For each method the methods that it calls. */
    private static Map<String, Set<String>> callsOf(String disassembled) {
        Map<String, Set<String>> calls = new HashMap<>();
        String inClass = "";
        String header = "";
        String method = "";
        for (String line : disassembled.split("\n")) {
            Matcher ofClass = Pattern.compile("class (CrossedSheet\\S*) \\{").matcher(line);
            Matcher call = Pattern.compile("(?:Interface)?Method (?:(\\S+)\\.)?(\\S+):(\\S+)").matcher(line);
            if (ofClass.find()) {
                inClass = ofClass.group(1);
            } else if (line.startsWith("    descriptor: (")) {
                Matcher name = Pattern.compile("([\\w$]+)\\(").matcher(header);
                String found = name.find() ? name.group(1) : "?";
                found = found.equals(inClass) ? "\"<init>\"" : found;
                method = inClass + "." + found + ":" + line.substring(16);
                calls.put(method, new TreeSet<>());
            } else if (line.contains(": invoke") && call.find()) {
                String owner = call.group(1) == null ? inClass : call.group(1);
                checkLibrary(owner, owner + "." + call.group(2));
                calls.get(method).add(owner + "." + call.group(2) + ":" + call.group(3));
            }
            checkInstruction(inClass, line);
            header = line;
        }
        return calls;
    }

    private static void checkLibrary(String owner, String called) {
        check(owner.startsWith("CrossedSheet") || LIBRARY.contains(called), called + " is not among what is used");
    }

    private static void checkInstruction(String inClass, String line) {
        check(!line.contains("Exception table"), inClass + " catches");
        check(!line.contains("invokedynamic"), inClass + " has a lambda, or joins texts by +");
        check(!line.contains("checkcast"), inClass + " casts");
        check(!line.contains("static {}"), inClass + " has a static initialiser");
        boolean array = line.matches("\\s+\\d+: ([ia]a(load|store)|a?newarray).*");
        check(!array || WITH_ARRAYS.contains(inClass), inClass + " uses an array itself: " + line);
    }

    private static int depth(Map<String, Set<String>> calls, String method, List<String> open) {
        if (open.contains(method)) {
            check(false, "recursion: " + open);
            return 0;
        }
        open.add(method);
        int deepest = 0;
        for (String called : calls.getOrDefault(method, Set.of())) {
            deepest = Math.max(deepest, depth(calls, called, open));
        }
        open.remove(method);
        return deepest + 1;
    }

    private static void checkCalls() throws URISyntaxException {
        Map<String, Set<String>> calls = callsOf(disassembled());
        check(calls.size() > 31, "only " + calls.size() + " methods found");
        for (String method : calls.keySet()) {
            int depth = depth(calls, method, new ArrayList<>());
            check(depth <= DEEPEST, method + " goes " + depth + " deep");
        }
    }

    private static void callDearly(CrossedSheet x) {
        x.bestPen(0);
        x.bestDecision(1);
        x.simulate(7, 99);
        x.runScript(3, 50000_50000_50000L);
        x.shared();
        x.turn();
        x.undo();
        x.save(0);
        x.restore(0);
        x.load();
    }

    private static void checkRoom() {
        CrossedSheet x = new CrossedSheet();
        for (char c : "S99m00a02m88-36".toCharArray()) {
            x.append(c);
        }
        com.sun.management.ThreadMXBean bean =
            (com.sun.management.ThreadMXBean) ManagementFactory.getThreadMXBean();
        callDearly(x);
        bean.getCurrentThreadAllocatedBytes();
        long before = bean.getCurrentThreadAllocatedBytes();
        for (int i = 0; i < 50; i++) {
            callDearly(x);
        }
        long made = bean.getCurrentThreadAllocatedBytes() - before;
        check(made < 4096, "500 calls made " + made + " bytes of objects");
        before = bean.getCurrentThreadAllocatedBytes();
        CrossedSheet another = new CrossedSheet();
        made = bean.getCurrentThreadAllocatedBytes() - before;
        check(another.about(2) == 0 && made < 100_000, "a new object takes " + made + " bytes");
    }

    public static void main(String[] args) throws IOException, URISyntaxException {
        checkFace();
        checkClassesInside();
        checkCalls();
        checkRoom();
        System.out.println(wrong == 0 ? "the language and the face are kept" : wrong + " rules are broken");
        if (wrong != 0) {
            System.exit(1);
        }
    }
}
