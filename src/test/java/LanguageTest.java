import java.io.IOException;
import java.lang.reflect.Constructor;
import java.lang.reflect.Field;
import java.lang.reflect.Method;
import java.lang.reflect.Modifier;
import java.nio.file.Files;
import java.nio.file.Path;
import java.util.Set;
import java.util.StringJoiner;
import java.util.TreeSet;
import java.util.regex.Matcher;
import java.util.regex.Pattern;

/** The rules of LANGUAGE.md that can be seen from the source's words and the compiled class. */
public final class LanguageTest {
    private static int wrong = 0;

    private static void must(boolean so, String rule) {
        if (!so) {
            wrong++;
            System.out.println("not so: " + rule);
        }
    }

    /** The document's public face; each call answers an int. */
    private static final String[] FACE = {
        "cell(int, int, int)", "ofCell(int, int)", "list(int, int)", "ofList(int)", "dark(int)", "wants(int, int)",
        "ofWearer(int)", "boat(int, int)", "ofBoat(int, int)", "change(int, int, int)", "become(int, int)",
        "as(int, int)", "feed(long, int)", "text(int)", "law(int, int, int, int)", "minutes(int)", "loose(int)",
        "then(int, int)", "on(int, int, int)", "full(int, int)", "wayFor(int, int)", "cellFor(int, int)",
        "kindFor(int, int)", "route(int, int, int)", "darkFor(int, int)", "match(int)", "blend(int)", "which(int, int)",
        "lay(int, int, int)", "odds(int, int, int)", "seed(int)", "voice(int, int, int)", "trace(int)",
        "sheet(int, int, int)", "put(int, int, int)", "move(int, int, int, int, int)", "lies(int)", "judge(int)",
        "image()", "restore()", "tell(int)", "check()", "count(int)", "told(int)"};

    public static void main(String[] args) throws IOException {
        String source = Files.readString(Path.of("src/main/java/IndigoBoats.java"));
        must(source.chars().allMatch(c -> c == '\n' || (c >= 32 && c < 127)), "the source has plain signs alone");
        words(source.replaceAll("(?s)/\\*.*?\\*/", "").replaceAll("//[^\n]*", ""));
        face();
        for (Class<?> inner : IndigoBoats.class.getDeclaredClasses()) {
            must(Modifier.isStatic(inner.getModifiers()), inner + " is static");
            members(inner);
        }
        members(IndigoBoats.class);
        must(IndigoBoats.class.getDeclaredClasses().length <= 11, "at most twelve classes");
        System.out.println(wrong == 0 ? "the language is kept" : wrong + " rules broken");
        if (wrong != 0) {
            System.exit(1);
        }
    }

    private static void words(String code) {
        String[] banned = {"throw", "throws", "try", "catch", "finally", "synchronized", "assert", "package", "protected",
            "Object", "Random", "Thread", "volatile", "native", "Exception", "Error", "var", "Map", "Set", "double", "float"};
        for (String word : banned) {
            must(!Pattern.compile("\\b" + word + "\\b").matcher(code).find(), "no word " + word);
        }
        must(!code.contains("->") && !code.contains("::"), "no lambda, no method reference");
        must(!Pattern.compile("static\\s*\\{").matcher(code).find(), "no static initialiser block");
        Matcher imports = Pattern.compile("import ([^;]*);").matcher(code);
        while (imports.find()) {
            must(Set.of("java.util.Arrays", "java.util.ArrayList", "java.util.List").contains(imports.group(1)),
                "import " + imports.group(1));
        }
        Matcher made = Pattern.compile("\\bSystem\\.(\\w+)").matcher(code);
        while (made.find()) {
            must(made.group(1).equals("arraycopy"), "System." + made.group(1));
        }
    }

    private static void face() {
        Set<String> calls = new TreeSet<>();
        for (Method method : IndigoBoats.class.getDeclaredMethods()) {
            if (!Modifier.isPrivate(method.getModifiers())) {
                must(method.getModifiers() == Modifier.PUBLIC, method + " is public, or private");
                must(method.getReturnType() == int.class, method + " answers an int");
                calls.add(told(method));
            }
        }
        must(calls.equals(Set.of(FACE)), "the public face is " + String.join(" ", FACE) + ", not " + calls);
        Constructor<?>[] constructors = IndigoBoats.class.getDeclaredConstructors();
        must(constructors.length == 1 && Modifier.isPublic(constructors[0].getModifiers())
            && constructors[0].getParameterCount() == 0, "one public constructor");
        must(Modifier.isFinal(IndigoBoats.class.getModifiers()), "the class is final");
        for (Field field : IndigoBoats.class.getDeclaredFields()) {
            must(Modifier.isPrivate(field.getModifiers()), field + " is private");
        }
    }

    private static String told(Method method) {
        StringJoiner types = new StringJoiner(", ", method.getName() + "(", ")");
        for (Class<?> type : method.getParameterTypes()) {
            types.add(type.getName());
        }
        return types.toString();
    }

    private static Set<String> namesOfTheFace() {
        Set<String> names = new TreeSet<>();
        for (String call : FACE) {
            names.add(call.substring(0, call.indexOf('(')));
        }
        return names;
    }

    private static void members(Class<?> one) {
        int fields = 0;
        for (Field field : one.getDeclaredFields()) {
            boolean isStatic = Modifier.isStatic(field.getModifiers());
            must(!isStatic || Modifier.isFinal(field.getModifiers()), field + " is final");
            fields += isStatic ? 0 : 1;
        }
        must(fields <= 20, one + " has at most twenty fields");
        Set<String> face = namesOfTheFace();
        for (Method method : one.getDeclaredMethods()) {
            must(method.getParameterCount() <= 7, method + " takes at most seven");
            must(one == IndigoBoats.class && Modifier.isPublic(method.getModifiers()) || !face.contains(method.getName()),
                method + " bears no name of the face");
        }
    }
}
