import java.io.ByteArrayOutputStream;
import java.io.File;
import java.io.IOException;
import java.io.PrintStream;
import java.lang.reflect.Method;
import java.lang.reflect.Modifier;
import java.net.URL;
import java.net.URLClassLoader;
import java.nio.charset.StandardCharsets;
import java.nio.file.Files;
import java.nio.file.Path;
import java.util.ArrayList;
import java.util.LinkedHashMap;
import java.util.List;
import java.util.Map;
import java.util.TreeSet;
import java.util.regex.Matcher;
import java.util.regex.Pattern;
import javax.tools.ToolProvider;

/** README.md tells what is so: its file compiles and prints what it says, its tables hold. */
final class ReadmeTells {
    private static final Pattern CONSTANT = Pattern.compile("(?m)^\\| `PedalLayers\\.(\\w+)` \\| (-\\d) \\|");
    private static final Pattern CALL = Pattern.compile("(?m)^\\| `(\\w+)\\(([\\w, ]*)\\)` \\|.*\\|([A-Z_ ]*)\\|$");
    private static final String[] NAMES = {"INVALID_ARGUMENT", "NOT_POSSIBLE", "LIMIT_REACHED", "NOT_FOUND"};

    private static String page() throws IOException {
        return Files.readString(Path.of("README.md"), StandardCharsets.US_ASCII);
    }

    private static String block(String kind) throws IOException {
        Matcher block = Pattern.compile("(?s)```" + kind + "\n(.*?)```").matcher(page());
        return block.find() ? block.group(1) : "";
    }

    static void readmeFileIsCompiledAndRun(Due due) throws IOException, ReflectiveOperationException {
        Path place = Files.createTempDirectory("readme");
        try {
            Path file = place.resolve("FirstLoop.java");
            Files.writeString(file, block("java"));
            ByteArrayOutputStream complaints = new ByteArrayOutputStream();
            int code = ToolProvider.getSystemJavaCompiler().run(null, null, complaints,
                    "-Xlint:all", "-d", place.toString(), LanguageRules.program, file.toString());
            due.same("the compiler's complaints about README's file", complaints.toString(), "");
            due.is("javac of README's file", code, 0);
            if (code == 0) {
                due.same("README's file", whatItPrints(place), block("text"));
            }
        } finally {
            for (File left : place.toFile().listFiles()) {
                left.delete();
            }
            place.toFile().delete();
        }
    }

    private static String whatItPrints(Path place) throws IOException, ReflectiveOperationException {
        PrintStream out = System.out;
        ByteArrayOutputStream printed = new ByteArrayOutputStream();
        try (URLClassLoader loader = new URLClassLoader(new URL[] {place.toUri().toURL()},
                ClassLoader.getPlatformClassLoader())) {
            System.setOut(new PrintStream(printed, true));
            loader.loadClass("FirstLoop").getMethod("main", String[].class).invoke(null, (Object) new String[0]);
        } finally {
            System.setOut(out);
        }
        return printed.toString().replace(System.lineSeparator(), "\n");
    }

    static void readmeErrors(Due due) throws IOException, ReflectiveOperationException {
        List<String> told = new ArrayList<>();
        Matcher constant = CONSTANT.matcher(page());
        while (constant.find()) {
            told.add(constant.group(1));
            due.is(constant.group(1), PedalLayers.class.getField(constant.group(1)).getInt(null),
                    Integer.parseInt(constant.group(2)));
        }
        due.same("README's constants", told.toString(), List.of(NAMES).toString());
    }

    /** For each call as README names it, with its arguments' number: the errors that README tells. */
    private static Map<String, String> errorsTold() throws IOException {
        Map<String, String> told = new LinkedHashMap<>();
        Matcher call = CALL.matcher(page());
        while (call.find()) {
            int arguments = call.group(2).isEmpty() ? 0 : call.group(2).split(",").length;
            told.put(call.group(1) + arguments, call.group(3).trim());
        }
        return told;
    }

    static void readmeCallsAreTheFace(Due due) throws IOException {
        TreeSet<String> face = new TreeSet<>();
        for (Method method : PedalLayers.class.getDeclaredMethods()) {
            if (!Modifier.isPrivate(method.getModifiers())) {
                face.add(method.getName() + method.getParameterCount());
            }
        }
        due.same("README's calls", new TreeSet<>(errorsTold().keySet()).toString(), face.toString());
    }

    static void readmeErrorsOfEachCall(Due due) throws IOException {
        List<String> calls = new ArrayList<>(RefusedCalls.calls());
        calls.addAll(List.of("speed()", "erase()", "save()", "loudness()"));
        Map<String, TreeSet<Integer>> found = new LinkedHashMap<>();
        for (String call : calls) {
            String between = call.substring(call.indexOf('(') + 1, call.length() - 1);
            int arguments = between.isEmpty() ? 0 : between.split(",").length;
            TreeSet<Integer> errors =
                    found.computeIfAbsent(call.substring(0, call.indexOf('(')) + arguments, name -> new TreeSet<>());
            for (String state : RefusedCalls.STATES) {
                String answer = Calls.behind(state).answer(call);
                if (answer.startsWith("-")) {
                    errors.add(-Integer.parseInt(answer));
                }
            }
        }
        for (Map.Entry<String, String> told : errorsTold().entrySet()) {
            StringBuilder names = new StringBuilder();
            for (int error : found.getOrDefault(told.getKey(), new TreeSet<>())) {
                names.append(names.length() == 0 ? "" : " ").append(NAMES[error - 1]);
            }
            due.same("the errors that README tells of " + told.getKey(), told.getValue(), names.toString());
        }
    }
}
