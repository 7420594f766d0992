import java.lang.reflect.InvocationTargetException;
import java.lang.reflect.Method;
import java.lang.reflect.Modifier;
import java.util.ArrayList;
import java.util.HashMap;
import java.util.List;
import java.util.Map;
import java.util.TreeMap;

/**
 * A boundary that the document names. Each call is asked of a new object that has had the same calls ahead, so that no
 * answer rests on a call beside it, and no object has more than the 512 calls that are promised.
 *
 * <p>Calls are told as texts: the name, then the numbers ("cell 3 0 9"; MIN and MAX are the least and the greatest int).
 * "tape s+d" feeds the bytes of a TEXT, with as many calls as that needs.
 */
final class Edge {
    static final int BEYOND = -1000000001;
    static final int NONE = -1000000002;
    static final int STATE = -1000000003;
    static final int FULL = -1000000004;
    static final int KIND = -1000000005;
    private static final int LOW = -1000000000;
    private static final int MOST_CALLS = 512;
    private static final Map<String, Method> FACE = new HashMap<>();

    private static int asked = 0;
    private static int wrong = 0;
    private static String test = "";

    private final String[] ahead;

    Edge(String... ahead) {
        this.ahead = ahead;
    }

    // ---- tests by their names

    /**
     * Runs all tests of a class; each of these promises must have one that is named after it. With -Dtest=.. only those
     * are run whose names begin so.
     */
    static void run(Class<?> tests, int firstPromise, int lastPromise) {
        Map<String, Method> named = named(tests);
        for (int promise = firstPromise; promise <= lastPromise; promise++) {
            String name = String.format("promise%02d", promise);
            if (named.keySet().stream().noneMatch(n -> n.startsWith(name))) {
                told("no test is named " + name);
            }
        }
        String only = System.getProperty("test", "");
        named.keySet().removeIf(name -> !name.startsWith(only));
        if (named.isEmpty()) {
            told("no test is named " + only);
        }
        for (Method method : named.values()) {
            test = method.getName();
            int before = asked;
            invoked(method, null);
            if (asked == before) {
                told("nothing was asked");
            }
        }
        System.out.println(named.size() + " tests, " + asked + " asked, " + wrong + " wrong");
        if (wrong != 0) {
            System.exit(1);
        }
    }

    private static Map<String, Method> named(Class<?> tests) {
        Map<String, Method> named = new TreeMap<>();
        for (Method method : tests.getDeclaredMethods()) {
            if (method.getName().matches("(promise\\d\\d|terms\\d).*") && Modifier.isStatic(method.getModifiers())) {
                named.put(method.getName(), method);
            }
        }
        return named;
    }

    private static void told(String what) {
        wrong++;
        System.out.println(test + ": " + what);
    }

    private static Object invoked(Method method, Object of, Object... arguments) {
        try {
            return method.invoke(of, arguments);
        } catch (InvocationTargetException e) {
            throw new IllegalStateException(test + ": " + method.getName(), e.getCause());
        } catch (IllegalAccessException e) {
            throw new IllegalStateException(e);
        }
    }

    // ---- what is asked

    /** The last of the calls answers so. */
    Edge gives(int due, String... calls) {
        Port port = new Port(ahead);
        int answer = 0;
        for (String call : calls) {
            answer = port.ask(call);
        }
        due(calls, answer, due);
        return this;
    }

    /** The last of the calls answers so, and nothing has changed by it, nor what told() tells. */
    Edge keeps(int due, String... calls) {
        compare(due, calls);
        return this;
    }

    /** The last of the calls answers that ERROR, which told() counts once; nothing else has changed. */
    Edge refuses(int error, String... calls) {
        if (error >= LOW) {
            throw new IllegalArgumentException("no ERROR: " + error);
        }
        compare(error, calls);
        return this;
    }

    /** With # as each of these, and as the least and the greatest int, the last of the calls is BEYOND. */
    Edge beyond(int[] values, String... calls) {
        for (int v : values) {
            refuses(BEYOND, filled(v, calls));
        }
        refuses(BEYOND, filled(Integer.MIN_VALUE, calls));
        refuses(BEYOND, filled(Integer.MAX_VALUE, calls));
        return this;
    }

    /** # goes from least to most, with these answers there; what lies next to them is BEYOND. */
    Edge within(int least, int dueAtLeast, int most, int dueAtMost, String... calls) {
        gives(dueAtLeast, filled(least, calls));
        gives(dueAtMost, filled(most, calls));
        return beyond(new int[] {least - 1, most + 1}, calls);
    }

    private static String[] filled(int v, String[] calls) {
        String[] all = calls.clone();
        all[all.length - 1] = all[all.length - 1].replace("#", Integer.toString(v));
        return all;
    }

    /** The calls with the last one and without it, on new objects for each part of what can be seen. */
    private void compare(int due, String[] calls) {
        String[] all = and(ahead, calls);
        String[] butLast = java.util.Arrays.copyOf(all, all.length - 1);
        Port with = new Port(butLast);
        Port without = new Port(butLast);
        due(calls, with.ask(calls[calls.length - 1]), due);
        for (int k = 1; k <= 5; k++) {
            int more = due == LOW - k ? 1 : 0;
            due(calls, "told " + k + " behind it", with.ask("told " + k), without.ask("told " + k) + more);
        }
        for (int part = 0; part < Port.PARTS; part++) {
            List<String> got = new Port(all).seen(part);
            List<String> want = new Port(butLast).seen(part);
            asked++;
            if (!got.equals(want)) {
                told(String.join("; ", calls) + " changed more: " + got + ", without it " + want);
            }
        }
    }

    private static void due(String[] calls, int answer, int due) {
        due(calls, "", answer, due);
    }

    private static void due(String[] calls, String more, int answer, int due) {
        asked++;
        if (answer != due) {
            told(String.join("; ", calls) + " " + more + " answered " + answer + ", due is " + due);
        }
    }

    // ---- an object, and all that can be seen of it

    static final class Port {
        static final int PARTS = 16;
        private static final String[] TWO_SHEETS = {"0 0 1 0", "0 0 2 0", "0 0 3 0", "1 0 2 0", "1 0 3 0", "2 0 3 0"};

        private final IndigoBoats boats = new IndigoBoats();
        private int calls;

        Port(String... ahead) {
            for (String call : ahead) {
                ask(call);
            }
        }

        int ask(String call) {
            if (call.startsWith("tape ")) {
                return feed(call.substring(5));
            }
            String[] words = call.split(" ");
            Method method = face(words[0]);
            if (method.getParameterCount() != words.length - 1) {
                throw new IllegalArgumentException(test + ": " + call);
            }
            Object[] numbers = new Object[words.length - 1];
            for (int i = 0; i < numbers.length; i++) {
                boolean isLong = method.getParameterTypes()[i] == long.class;
                numbers[i] = isLong ? (Object) Long.decode(words[i + 1]) : (Object) number(words[i + 1]);
            }
            counted();
            return (Integer) invoked(method, boats, numbers);
        }

        private int feed(String text) {
            int size = 0;
            for (int at = 0; at < text.length(); at += 8) {
                long word = 0;
                int n = Math.min(8, text.length() - at);
                for (int i = 0; i < n; i++) {
                    word |= (text.charAt(at + i) & 255L) << (8 * i);
                }
                counted();
                size = boats.feed(word, n);
            }
            return size;
        }

        private void counted() {
            calls++;
            if (calls > MOST_CALLS) {
                throw new IllegalStateException(test + ": more than " + MOST_CALLS + " calls");
            }
        }

        private static Integer number(String word) {
            if (word.equals("MIN")) {
                return Integer.MIN_VALUE;
            }
            return word.equals("MAX") ? Integer.MAX_VALUE : Integer.parseInt(word);
        }

        private static Method face(String name) {
            if (FACE.isEmpty()) {
                for (Method method : IndigoBoats.class.getDeclaredMethods()) {
                    if (Modifier.isPublic(method.getModifiers())) {
                        FACE.put(method.getName(), method);
                    }
                }
            }
            if (!FACE.containsKey(name)) {
                throw new IllegalArgumentException(test + ": no call " + name);
            }
            return FACE.get(name);
        }

        /**
         * All that calls can show but for told(), in parts: what is now, TEXTS, numbers that wait, THE TRACE, the IMAGE,
         * each SHEET, each two SHEETS. The object is spent by one part, so that no look hides what another would show.
         */
        List<String> seen(int part) {
            List<String> seen = new ArrayList<>();
            switch (part) {
                case 0: world(seen); see(seen, "image"); break;
                case 1: texts(seen); break;
                case 2: waiting(seen); break;
                case 3: trace(seen); break;
                case 4: see(seen, "restore"); world(seen); texts(seen); break;
                case 5: see(seen, "restore"); waiting(seen); break;
                case 6: case 7: case 8: case 9: sheet(seen, part - 6); break;
                default: see(seen, "move " + TWO_SHEETS[part - 10] + " 0"); break;
            }
            return seen;
        }

        private int see(List<String> seen, String call) {
            int answer = ask(call);
            seen.add(call + " -> " + answer);
            return answer;
        }

        private void world(List<String> seen) {
            int boats = see(seen, "count 0");
            for (int what : new int[] {1, 4, 7, 8, 9, 10}) {
                see(seen, "count " + what);
            }
            for (int cell = 0; cell < 16; cell++) {
                see(seen, "ofCell " + cell + " 0");
                see(seen, "ofCell " + cell + " 1");
            }
            for (int i = 0; i < 6; i++) {
                see(seen, "ofList " + i);
                see(seen, "ofWearer " + i);
            }
            for (int boat = 0; boat < boats; boat++) {
                for (int what = 0; what < 4; what++) {
                    see(seen, "ofBoat " + boat + " " + what);
                }
            }
        }

        /** Both TEXTS, and THE TAPE, which a NAME brings to its end. */
        private void texts(List<String> seen) {
            see(seen, "law 0 1 20 4");
            see(seen, "law 0 7 3 19");
            see(seen, "law 1 5 30 0");
            see(seen, "law 1 2 8 1");
            see(seen, "feed 0x74 1");
            see(seen, "text 0");
            see(seen, "law 0 2 3 5");
        }

        /** The numbers that wait, with a wrong one behind them. */
        private void waiting(List<String> seen) {
            see(seen, "tell MIN");
            see(seen, "check");
        }

        private void trace(List<String> seen) {
            int body = 0;
            for (int i = 0; i < 10 && body >= 0; i++) {
                body = see(seen, "trace " + i);
            }
        }

        /** The numbers of a SHEET that lie() shows, and how many there are. */
        private void sheet(List<String> seen, int sheet) {
            int lie = see(seen, "lies " + sheet);
            for (int i = 0; i < lie; i++) {
                see(seen, "ofCell " + i + " 1");
            }
            int size = 0;
            for (int step = 32; lie >= 0 && step > 0; step /= 2) {
                int n = size + step;
                size = ask("move " + sheet + " 0 " + sheet + " 0 " + n) == n ? n : size;
            }
            seen.add("SHEET " + sheet + " has " + size);
        }
    }

    // ---- calls ahead

    static String[] times(int n, String... calls) {
        String[] all = new String[n * calls.length];
        for (int i = 0; i < all.length; i++) {
            all[i] = calls[i % calls.length];
        }
        return all;
    }

    static String[] and(String[] calls, String... more) {
        String[] all = new String[calls.length + more.length];
        System.arraycopy(calls, 0, all, 0, calls.length);
        System.arraycopy(more, 0, all, calls.length, more.length);
        return all;
    }

    /**
     * A port with something of each: an IMAGE of MINUTE 0 with three BOATS; now MINUTE 7 (dark, the place is 1), BOATS 0
     * to 3: a BOAT (m 3) on CELL 6 with 33, a WHERRY (m 7) on 5 with 94, a GHOST (m 0) on 9 with 0, a PUNT (m 5) on 15
     * with 50; STUFF 11, 40, 31, 12 on CELLS 0, 5, 9, 15, and 26 on most others; two numbers wait, as they are due; TEXTS
     * s/2+1 and l+h; THE TAPE has d*2+s*; THE TRACE 13, 11, 10, 12; SHEETS of 3 numbers of 8 bits, 2 of 16 bits, 0 of 32
     * bits, and a missing one.
     */
    static String[] port() {
        return new String[] {
            "boat 3 5", "boat 47 5", "boat 60 9", "tape s/2+1", "text 0", "tape l+h", "text 1", "tape d*2+",
            "seed 99", "dark 9", "list 4 4", "wants 2 77", "change 0 1 60", "tell 60", "tell 60", "image", "check",
            "minutes 7",
            "boat 25 15", "cell 0 1 11", "cell 5 1 40", "cell 9 1 31", "cell 15 1 12", "cell 0 0 4", "cell 15 0 6",
            "list 0 3", "list 1 2", "list 5 1", "dark 11", "wants 0 12", "wants 5 98", "change 0 0 6", "change 0 1 33",
            "change 1 0 5", "change 1 1 94", "change 2 0 9", "change 2 1 0", "change 3 1 50", "tape s*", "seed 12345",
            "tell 196", "tell 214", "sheet 0 8 3", "put 0 0 7", "put 0 1 99", "put 0 2 90", "sheet 1 16 2", "put 1 0 98",
            "put 1 1 792", "sheet 2 32 0", "voice 0 3 1"};
    }

    /** The port with as many as there can be of BOATS, bytes of THE TAPE, and numbers that wait. */
    static String[] fullPort() {
        String[] boats = and(port(), times(4, "boat 13 2"));
        return and(and(boats, "tape " + "1+".repeat(22)), times(18, "tell 5"));
    }

    /** The port without an IMAGE. */
    static String[] unkeptPort() {
        return java.util.Arrays.stream(port()).filter(call -> !call.equals("image")).toArray(String[]::new);
    }

    /** The port in MINUTE 9999. */
    static String[] latePort() {
        return and(and(port(), times(166, "minutes 60")), "minutes 32");
    }

    /** A port with one BOAT alone, and something of each else. */
    static String[] lonePort() {
        return new String[] {
            "boat 47 5", "tape s/2+1", "text 0", "tape l+h", "text 1", "tape d*2+", "tell 60", "image", "minutes 7",
            "cell 0 1 11", "change 0 1 33", "tape s*", "tell 196", "sheet 0 8 3", "put 0 0 7", "sheet 1 16 2",
            "sheet 2 32 0", "voice 0 3 1"};
    }

    /** Eight BOATS on CELL 0. */
    static String[] fleet() {
        return times(8, "boat 0 0");
    }

    /** MINUTE 9999, with a PUNT; the CELLS are as they were at first but for STUFF. */
    static String[] late() {
        return and(and(new String[] {"boat 20 4"}, times(166, "minutes 60")), "minutes 39");
    }

    /** Nothing settles, nothing is lost, and it is dark always. */
    static String[] still() {
        return new String[] {"dark 20", "tape 0", "text 0", "tape 0", "text 1"};
    }

    /** A BOAT on CELL 10 that has 1 more with each dark MINUTE and loses nothing; it is dark always. */
    static String[] oneByOne() {
        return new String[] {"dark 20", "tape 1", "text 0", "tape 0", "text 1", "boat 0 10"};
    }
}
