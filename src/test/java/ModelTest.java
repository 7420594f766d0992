import java.lang.reflect.Method;
import java.util.Arrays;
import java.util.Map;
import java.util.Random;
import java.util.TreeMap;

/** Runs of calls, drawn from fixed seeds, on the program and on the slow Model: both must answer alike. */
public final class ModelTest {
    private static final int CALLS = 512;
    private static final Map<String, Integer> GOOD = new TreeMap<>();
    private static final Map<String, Integer> ERRORS = new TreeMap<>();
    private final Random random;
    private final int run;
    private final IndigoBoats program = new IndigoBoats();
    private final Model model = new Model();
    private final StringBuilder last = new StringBuilder();
    private int calls;
    private boolean wrong;

    private ModelTest(int run) {
        this.run = run;
        this.random = new Random(1000003L * run);
    }

    public static void main(String[] args) {
        int runs = args.length > 0 ? Integer.parseInt(args[0]) : 150;
        int wrongs = 0;
        long all = 0;
        for (int run = 0; run < runs; run++) {
            ModelTest test = new ModelTest(run);
            test.go();
            all += test.calls;
            wrongs += test.wrong ? 1 : 0;
        }
        System.out.println("answers: " + GOOD + "\nERRORS: " + ERRORS);
        System.out.println(runs + " runs, " + all + " calls, " + wrongs + " runs wrong");
        if (wrongs != 0) {
            System.exit(1);
        }
    }

    private void go() {
        if (run % 10 == 9) {
            for (int i = 0; i < 166; i++) {
                same("minutes", 60);
            }
        }
        for (int i = pick(10); i > 0; i--) {
            same("boat", pick(70), pick(16));
        }
        boolean dear = run % 3 == 0;
        while (calls < CALLS && !wrong) {
            oneAct(dear);
        }
    }

    private int pick(int n) {
        return random.nextInt(n);
    }

    /** Mostly 0 to n - 1, at times an edge or far beyond. */
    private int near(int n) {
        int[] odd = {-1, n, n - 1, 0, Integer.MIN_VALUE, Integer.MAX_VALUE, -100, 100, n + 1, 1 << 30};
        return pick(25) == 0 ? odd[pick(odd.length)] : pick(n);
    }

    private int boatNumber() {
        int boats = model.w.boats.size();
        return pick(20) == 0 || boats == 0 ? near(9) : pick(boats);
    }

    private int any() {
        switch (pick(4)) {
            case 0: return random.nextInt();
            case 1: return pick(200) - 100;
            case 2: return pick(20);
            default: return new int[] {0, 1, -1, Integer.MIN_VALUE, Integer.MAX_VALUE, 99, 100, -99}[pick(8)];
        }
    }

    private void oneAct(boolean dear) {
        switch (pick(dear ? 46 : 36)) {
            case 0: same("cell", near(16), 0, near(10)); break;
            case 1: case 2: case 3: same("cell", near(16), near(2), near(100)); break;
            case 4: same("ofCell", near(16), near(4)); break;
            case 5: case 6: same("list", near(6), near(5)); break;
            case 7: same("ofList", near(6)); same("ofWearer", near(6)); break;
            case 8: same("dark", 1 + near(20)); break;
            case 9: same("wants", near(6), near(100)); break;
            case 10: same("boat", near(70), near(16)); break;
            case 11: case 12: case 13: same("ofBoat", boatNumber(), near(8)); break;
            case 14: same("change", boatNumber(), near(2), pick(3) == 0 ? near(100) : near(16)); break;
            case 15: same("become", boatNumber(), near(70)); break;
            case 16: same("as", boatNumber(), near(7)); break;
            case 17: case 18: writeText(); break;
            case 19: same("law", near(2), any(), any(), any()); break;
            case 20: same("minutes", 1 + near(60)); break;
            case 21: same("loose", 1 + near(40)); break;
            case 22: same("then", near(61), near(2)); break;
            case 23: same("on", boatNumber(), near(61), near(2)); break;
            case 24: same("full", boatNumber(), near(100)); break;
            case 25: same("match", near(7) - 1); break;
            case 26: same("blend", near(199)); break;
            case 27: same("seed", any()); break;
            case 28: same("voice", boatNumber(), near(4), any()); same("trace", near(10)); break;
            case 29: fillSheet(); break;
            case 30: oneSheetAct(); break;
            case 31: same(pick(3) == 0 ? "image" : "restore"); break;
            case 32: tellSome(); break;
            case 33: same("count", near(11)); break;
            case 34: same("told", near(6)); break;
            case 35: same("minutes", 1 + pick(3)); break;
            default: dearAct(); break;
        }
    }

    private void dearAct() {
        switch (pick(8)) {
            case 0: same("wayFor", near(6), near(61)); break;
            case 1: same("cellFor", boatNumber(), near(61)); break;
            case 2: same("kindFor", boatNumber(), near(61)); break;
            case 3: same("route", boatNumber(), near(5), near(2)); break;
            case 4: same("darkFor", near(61), pick(2) == 0 ? near(793) : pick(60)); break;
            case 5: same("which", near(4), boatNumber()); break;
            case 6: same("lay", near(4), near(16), near(2)); break;
            default: same("odds", near(31), pick(2) == 0 ? near(793) : pick(60), near(2)); break;
        }
    }

    private void writeText() {
        int use = pick(2);
        String text = pick(4) == 0 ? "" : grown(use, 3 + pick(3), 0);
        if (pick(4) == 0) {
            text = spoilt(text);
        }
        int at = 0;
        while (at < text.length() && !wrong) {
            int n = Math.min(1 + pick(8), text.length() - at);
            long word = random.nextLong() & (n == 8 ? 0 : -1L << (8 * n));
            for (int i = 0; i < n; i++) {
                word |= (text.charAt(at + i) & 255L) << (8 * i);
            }
            same("feed", word, n);
            at += n;
        }
        if (pick(5) == 0) {
            same("feed", random.nextLong(), near(9));
        }
        if (pick(9) != 0) {
            same("text", pick(15) == 0 ? near(2) : use);
        }
    }

    private String grown(int use, int budget, int open) {
        if (budget <= 0 || pick(5) == 0) {
            String names = "sdtlbh".substring(3 * use, 3 * use + 3);
            return pick(3) == 0 ? String.valueOf(pick(pick(2) == 0 ? 12 : 10000)) : "" + names.charAt(pick(3));
        }
        if (pick(6) == 0 && open < 6) {
            return pick(2) == 0 ? "!" + grown(use, 0, open + 1) : "(" + grown(use, budget - 1, open + 1) + ")";
        }
        String left = grown(use, budget - 1 - pick(2), open);
        return left + "|&<=>+-*/%".charAt(pick(10)) + grown(use, budget - 1 - pick(2), open);
    }

    private String spoilt(String text) {
        String signs = "sdtlbh0123456789()()!!!|&<=>+-*/% x" + (char) 0 + (char) 233;
        StringBuilder b = new StringBuilder(text);
        for (int i = pick(3); i >= 0; i--) {
            b.insert(pick(b.length() + 1), signs.charAt(pick(signs.length())));
        }
        if (pick(3) == 0) {
            b.insert(0, "(!((!(!!".substring(0, 1 + pick(8)));
        }
        return b.toString();
    }

    /** A SHEET that tells what would be, so that which, lay and judge find something. */
    private void fillSheet() {
        int sheet = pick(4);
        int bits = new int[] {8, 16, 32, 16}[pick(4)];
        int n = pick(3) == 0 ? pick(41) : pick(9);
        if (pick(5) == 0) {
            same("sheet", near(4), new int[] {0, 8, 16, 32, 7, -8, 64}[pick(7)], pick(3) == 0 ? -1 - pick(3) : near(41));
            return;
        }
        same("sheet", sheet, bits, n);
        int how = pick(4);
        int shift = pick(8) == 0 ? 1 : 0;
        for (int i = 0; i < n && !wrong && calls < CALLS; i++) {
            int v = how == 0 ? any() : how == 1 ? pick(104) - 2 : how == 2 && i < model.w.boats.size()
                ? model.w.boats.get(i).barrel : model.w.copy().steps(i + 1).had() + shift;
            same("put", sheet, i, v);
        }
        if (pick(2) == 0) {
            same("which", sheet, boatNumber());
            same("lay", sheet, near(16), near(2));
        } else {
            same("judge", sheet);
        }
    }

    private void oneSheetAct() {
        switch (pick(5)) {
            case 0: same("put", near(4), near(40), any()); break;
            case 1: same("move", near(4), near(10), near(4), near(10), near(8)); break;
            case 2: moveSome(); break;
            case 3: same("lies", near(4)); break;
            default: same("judge", near(4)); break;
        }
    }

    private void moveSome() {
        int from = pick(4);
        int to = pick(4);
        int bits = new int[] {8, 16, 32}[pick(3)];
        same("sheet", to, bits, 1 + pick(20));
        same("sheet", from, bits, 1 + pick(20));
        for (int i = 0; i < 12; i++) {
            same("put", from, i, pick(100));
        }
        for (int i = 0; i < 4; i++) {
            same("move", from, near(8), to, near(8), near(9));
        }
        same("lies", to);
        for (int i = 0; i < 16; i++) {
            same("ofCell", i, 1);
        }
    }

    private void tellSome() {
        int n = pick(8) == 0 ? 22 : pick(5);
        boolean right = pick(2) == 0;
        int first = model.w.waiting.size();
        for (int i = 0; i < n && !wrong && calls < CALLS; i++) {
            same("tell", right ? model.w.copy().steps(first + i + 1).had() : any());
        }
        if (pick(3) != 0) {
            same("check");
        }
    }

    private void same(String call, long... a) {
        if (wrong || calls >= CALLS) {
            return;
        }
        calls++;
        int got = answer(program, call, a);
        int due = answer(model, call, a);
        (due < Model.LOW ? ERRORS : GOOD).merge(call, 1, Integer::sum);
        last.append(call).append(Arrays.toString(a)).append(" -> ").append(due).append('\n');
        if (got != due) {
            wrong = true;
            System.out.println("run " + run + ", call " + calls + ": " + call + Arrays.toString(a)
                + " answered " + got + ", due is " + due + "; the calls ahead:\n" + last);
        }
    }

    private static int answer(Object of, String call, long[] a) {
        for (Method method : of.getClass().getDeclaredMethods()) {
            if (method.getName().equals(call) && method.getParameterCount() == a.length) {
                Object[] arguments = new Object[a.length];
                for (int i = 0; i < a.length; i++) {
                    arguments[i] = method.getParameterTypes()[i] == long.class ? (Object) a[i] : (Object) (int) a[i];
                }
                try {
                    return (Integer) method.invoke(of, arguments);
                } catch (ReflectiveOperationException e) {
                    throw new IllegalStateException(call + Arrays.toString(a), e);
                }
            }
        }
        throw new IllegalStateException("no call " + call);
    }
}
