import java.io.IOException;
import java.lang.reflect.Constructor;
import java.lang.reflect.Field;
import java.lang.reflect.Method;
import java.lang.reflect.Modifier;
import java.nio.charset.StandardCharsets;
import java.nio.file.Files;
import java.nio.file.Path;
import java.util.Set;
import java.util.TreeSet;
import java.util.regex.Matcher;
import java.util.regex.Pattern;

/** The rules of ../shared/LANGUAGE.md that can be looked at from outside. */
final class LanguageRules {
    static String program = "src/main/java/PedalLayers.java";

    private static final String FACE = "press() stop() empty() hit(int,int) pass(int) peel() back() mute(int) speed()"
            + " set(int,int) append(int) erase() fault(int) play() why(int) layer(int,int) note(int,int,int)"
            + " ring(int,int) heard(int,int) loudest() buried() tunes() count(int) loudness() barIn() drift(int)"
            + " meets() rounded(int) silentIn() ifPeeled(int,int) undo() save() restore()";
    private static final String CONSTANTS =
            "BAR=0 FADE=2 INVALID_ARGUMENT=-1 LIMIT_REACHED=-3 NOT_FOUND=-4 NOT_POSSIBLE=-2 SLACK=1";
    private static final String[] KEPT_OUT = {
        "import", "package", "->", "::", "try", "catch", "throw", "throws", "finally", "synchronized", "assert",
        "instanceof", "native", "volatile", "transient", "protected", "var", "Object", "equals", "hashCode",
        "toString", "Exact", "@", "double[]", "long[][]", "System.out", "System.exit", "record", "Thread",
    };

    static void rule01Face(Due due) throws IllegalAccessException {
        Set<String> methods = new TreeSet<>();
        for (Method method : PedalLayers.class.getDeclaredMethods()) {
            if (!Modifier.isPrivate(method.getModifiers()) && !method.isSynthetic()) {
                due.holds(method + " is public", Modifier.isPublic(method.getModifiers()));
                due.holds(method + " has its type", method.getReturnType()
                        == (method.getName().equals("loudness") ? double.class : int.class));
                methods.add(nameOf(method));
            }
        }
        due.holds("the methods are the face's: " + methods, methods.equals(new TreeSet<>(Set.of(FACE.split(" ")))));
        Set<String> constants = new TreeSet<>();
        for (Field field : PedalLayers.class.getDeclaredFields()) {
            if (!Modifier.isPrivate(field.getModifiers())) {
                due.holds(field + " is a constant", Modifier.isStatic(field.getModifiers())
                        && Modifier.isFinal(field.getModifiers()) && Modifier.isPublic(field.getModifiers()));
                constants.add(field.getName() + "=" + field.getInt(null));
            }
        }
        due.holds("the constants are the face's: " + constants, String.join(" ", constants).equals(CONSTANTS));
        Constructor<?>[] constructors = PedalLayers.class.getDeclaredConstructors();
        due.is("constructors", constructors.length, 1);
        due.holds("it is public", Modifier.isPublic(constructors[0].getModifiers()));
        due.holds("the class is public and final", Modifier.isPublic(PedalLayers.class.getModifiers())
                && Modifier.isFinal(PedalLayers.class.getModifiers()));
    }

    private static String nameOf(Method method) {
        StringBuilder name = new StringBuilder(method.getName()).append('(');
        for (Class<?> type : method.getParameterTypes()) {
            name.append(name.charAt(name.length() - 1) == '(' ? "" : ",").append(type.getName());
        }
        return name.append(')').toString();
    }

    /** The calls stand in the document's order, under the headings that its interface has. */
    static void rule01FaceInItsOrder(Due due) throws IOException {
        String[] headings = {"the pedal", "texts", "looks; nothing is changed",
            "bars, what would be; nothing is changed", "history, snapshot"};
        String[] firstCalls = {"press", "append", "layer", "barIn", "undo"};
        String text = Files.readString(Path.of(program), StandardCharsets.US_ASCII);
        int at = 0;
        for (String call : FACE.split(" ")) {
            String name = call.substring(0, call.indexOf('('));
            for (int i = 0; i < headings.length; i++) {
                if (name.equals(firstCalls[i])) {
                    at = text.indexOf("    // ---- " + headings[i] + "\n", Math.max(at, 0));
                    due.holds("the heading " + headings[i] + " stands in its place", at >= 0);
                }
            }
            at = text.indexOf("    public " + (name.equals("loudness") ? "double " : "int ") + name + "(", Math.max(at, 0));
            due.holds(name + " stands in its place", at >= 0);
        }
    }

    static void rule01NoOtherMethodBearsAName(Due due) {
        String names = " " + FACE.replaceAll("\\([^)]*\\)", "") + " ";
        for (Method method : PedalLayers.class.getDeclaredMethods()) {
            boolean ofFace = Modifier.isPublic(method.getModifiers());
            due.holds(method + " has a name of its own", ofFace || !names.contains(" " + method.getName() + " "));
        }
    }

    static void rule01AndRule11ClassesInside(Due due) {
        Class<?>[] inside = PedalLayers.class.getDeclaredClasses();
        due.holds("at most 12 classes", inside.length < 12);
        for (Class<?> one : inside) {
            due.holds(one + " is static, and not public", Modifier.isStatic(one.getModifiers())
                    && !Modifier.isPublic(one.getModifiers()) && !Modifier.isProtected(one.getModifiers()));
            fewFields(due, one);
            for (Method method : one.getDeclaredMethods()) {
                due.holds(method + " has at most 7 parameters", method.getParameterCount() <= 7);
                due.holds(method + " is not public", !Modifier.isPublic(method.getModifiers()));
            }
        }
        fewFields(due, PedalLayers.class);
    }

    private static void fewFields(Due due, Class<?> one) {
        int fields = 0;
        for (Field field : one.getDeclaredFields()) {
            due.holds(field + " is final, if it is static",
                    !Modifier.isStatic(field.getModifiers()) || Modifier.isFinal(field.getModifiers()));
            fields += Modifier.isStatic(field.getModifiers()) ? 0 : 1;
        }
        due.holds(one + " has at most 20 fields", fields <= 20);
    }

    static void rule04And06And13KeptOut(Due due) throws IOException {
        String text = withoutComments();
        for (String word : KEPT_OUT) {
            boolean letters = word.matches("\\w+");
            Pattern pattern = Pattern.compile(letters ? "\\b" + word + "\\b" : Pattern.quote(word));
            due.holds("the program does without " + word, !pattern.matcher(text).find());
        }
        Matcher library = Pattern.compile("\\b(System|Math|Integer|Long|Arrays|String|StringBuilder)\\b(\\.\\w+)?")
                .matcher(text);
        while (library.find()) {
            due.holds(library.group() + " is of the library that is left",
                    library.group().matches("System\\.arraycopy|Math\\.(min|max|abs)"));
        }
    }

    static void rule11MethodsAreShort(Due due) throws IOException {
        int lines = 0;
        for (String line : Files.readAllLines(Path.of(program), StandardCharsets.US_ASCII)) {
            boolean begins = line.matches("( {4}| {8})(\\w.*)?\\w+\\(.*\\) \\{");
            lines = begins ? 1 : lines + 1;
            due.holds("a method of at most 60 lines ends at: " + line,
                    !line.matches("( {4}| {8})\\}") || lines <= 60 || line.matches(" {4}\\}"));
        }
    }

    static void rule12RowsAreMadeOnceForAll(Due due) throws IOException {
        for (String line : withoutComments().split("\n")) {
            boolean once = line.matches(" +(private final .*|(layers|states)\\[i\\]) = new .*");
            due.holds("what is made is made once for all, in: " + line, once || !line.matches(".*\\bnew\\b.*"));
        }
    }

    private static String withoutComments() throws IOException {
        String text = Files.readString(Path.of(program), StandardCharsets.US_ASCII);
        return text.replaceAll("(?s)/\\*.*?\\*/", " ").replaceAll("//[^\n]*", " ").replaceAll("'.'", "' '");
    }
}
