import java.io.IOException;
import java.nio.file.Files;
import java.nio.file.Path;
import java.util.ArrayList;
import java.util.List;
import java.util.Random;
import java.util.TreeSet;
import java.util.regex.Matcher;
import java.util.regex.Pattern;

/** README.md tells what the class answers: its examples call by call, and of each call of the face which ERRORS it has. */
public final class ReadmeTest {
    private static final String NEW = "IndigoBoats x = new IndigoBoats();";
    private static final Pattern EXAMPLE = Pattern.compile("x\\.(\\w+)\\(([^)]*)\\);\\s+// (-?\\d+)(:.*)?");
    private static final Pattern IN_TABLE = Pattern.compile("\\| `(\\w+)\\(([^)]*)\\)` \\|.*\\|([^|]*)\\|");
    private static final Pattern IN_FACE = Pattern.compile(" {4}public int (\\w+)\\(([^)]*)\\) \\{");
    private static final Pattern AN_ERROR = Pattern.compile("BEYOND|NONE|STATE|FULL|KIND");
    private static final String[] ERRORS = {"BEYOND", "NONE", "STATE", "FULL", "KIND"};
    private static final int[] TRIED = {-1, 0, 1, 2, 3, 4, 6, 8, 9, 16, 21, 32, 41, 61, 99, Integer.MIN_VALUE,
        Integer.MAX_VALUE};
    private static final int TRIES = 1500;
    private static final int LATE_TRIES = 30;

    private static int asked = 0;
    private static int wrong = 0;

    public static void main(String[] args) throws IOException {
        List<String> readme = Files.readAllLines(Path.of("README.md"));
        int examples = examples(readme);
        List<String> told = table(readme);
        List<String> face = face(Files.readAllLines(Path.of("src/main/java/IndigoBoats.java")));
        must(examples >= 50, "README.md has examples");
        must(told.equals(face), "the table of calls is the face: " + told + ", due is " + face);
        errors(readme);
        System.out.println(examples + " examples, " + told.size() + " calls, " + asked + " asked, " + wrong + " wrong");
        if (wrong != 0) {
            System.exit(1);
        }
    }

    private static void must(boolean so, String what) {
        asked++;
        if (!so) {
            wrong++;
            System.out.println("not so: " + what);
        }
    }

    /** Each line of each example in Java is a new object, or a call with its answer behind it. */
    private static int examples(List<String> readme) {
        int examples = 0;
        boolean isJava = false;
        Edge.Port x = null;
        for (String line : readme) {
            if (line.startsWith("```")) {
                isJava = line.equals("```java");
            } else if (isJava && line.equals(NEW)) {
                x = new Edge.Port();
            } else if (isJava) {
                examples++;
                Matcher call = EXAMPLE.matcher(line);
                boolean isCall = x != null && call.matches();
                must(isCall, "a call with its answer: " + line);
                if (isCall) {
                    int answer = x.ask(asWords(call.group(1), call.group(2)));
                    must(answer == Integer.parseInt(call.group(3)), line + " (answered " + answer + ")");
                }
            }
        }
        return examples;
    }

    private static String asWords(String name, String numbers) {
        return numbers.isEmpty() ? name : name + " " + numbers.replace("L", "").replace(", ", " ");
    }

    private static List<String> table(List<String> readme) {
        List<String> calls = new ArrayList<>();
        for (String line : readme) {
            Matcher row = IN_TABLE.matcher(line);
            if (row.matches()) {
                calls.add(row.group(1) + "(" + row.group(2) + ")");
            }
        }
        return calls;
    }

    private static List<String> face(List<String> source) {
        List<String> calls = new ArrayList<>();
        for (String line : source) {
            Matcher call = IN_FACE.matcher(line);
            if (call.matches()) {
                calls.add(call.group(1) + "(" + call.group(2).replaceAll("(int|long) ", "") + ")");
            }
        }
        return calls;
    }

    private static void errors(List<String> readme) {
        for (String line : readme) {
            Matcher row = IN_TABLE.matcher(line);
            if (row.matches()) {
                int parameters = row.group(2).isEmpty() ? 0 : row.group(2).split(", ").length;
                TreeSet<String> told = new TreeSet<>();
                Matcher error = AN_ERROR.matcher(row.group(3));
                while (error.find()) {
                    told.add(error.group());
                }
                TreeSet<String> seen = seen(row.group(1), parameters);
                must(seen.equals(told), row.group(1) + " tells " + told + ", seen are " + seen);
            }
        }
    }

    /** The ERRORS that a call is seen to answer with drawn numbers; told() shows them, as some answer any number. */
    private static TreeSet<String> seen(String call, int parameters) {
        TreeSet<String> seen = new TreeSet<>();
        Random random = new Random(call.hashCode());
        String[][] settings = {{}, Edge.lonePort(), Edge.port(), Edge.fullPort(), Edge.unkeptPort()};
        for (int i = 0; i < TRIES; i++) {
            look(settings[i % settings.length], drawn(call, parameters, random), seen);
        }
        for (int i = 0; i < LATE_TRIES && (call.equals("minutes") || call.equals("loose")); i++) {
            look(Edge.latePort(), drawn(call, parameters, random), seen);
        }
        return seen;
    }

    private static String drawn(String call, int parameters, Random random) {
        StringBuilder all = new StringBuilder(call);
        for (int i = 0; i < parameters; i++) {
            all.append(' ').append(random.nextBoolean() ? 0 : TRIED[random.nextInt(TRIED.length)]);
        }
        return all.toString();
    }

    private static void look(String[] ahead, String call, TreeSet<String> seen) {
        Edge.Port port = new Edge.Port(ahead);
        int[] before = told(port);
        port.ask(call);
        int[] behind = told(port);
        int more = 0;
        for (int k = 0; k < ERRORS.length; k++) {
            if (behind[k] > before[k]) {
                seen.add(ERRORS[k]);
            }
            more += behind[k] - before[k];
        }
        must(more == 0 || more == 1, call + " is counted once at most");
    }

    private static int[] told(Edge.Port port) {
        int[] told = new int[ERRORS.length];
        for (int k = 1; k <= ERRORS.length; k++) {
            told[k - 1] = port.ask("told " + k);
        }
        return told;
    }
}
