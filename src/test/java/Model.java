import java.util.ArrayList;
import java.util.List;

/**
 * The document once more, as slow and as plain as it can be said: KINDS are classes that override one another,
 * TEXTS are split at their signs each time, what is best is found by trying all. Only tests use it.
 */
final class Model {
    static final int LOW = -1000000000;
    static final int BEYOND = LOW - 1;
    static final int NONE = LOW - 2;
    static final int STATE = LOW - 3;
    static final int FULL = LOW - 4;
    static final int KIND = LOW - 5;

    // ---- kinds

    static class Boat {
        int number;
        int m;
        int cell;
        int barrel;
        List<Integer> began = new ArrayList<>();

        int kind() { return 0; }
        int dips(int s) { return 5; }
        int goes(int w, int minute) { return w; }
        int leaks() { return 1; }

        int voiceDips(int x) { began.add(10); return x + number; }
        int voiceLids(int x) { began.add(11); return voiceDips(x) * 2; }
        int voiceTurns(int x) { began.add(12); return x - m; }
        int voiceTells(int x) { began.add(13); return voiceLids(x) ^ voiceTurns(x); }
    }

    static class Skiff extends Boat {
        @Override int kind() { return 1; }
        @Override int dips(int s) { return super.dips(s) - 2; }
        @Override int goes(int w, int minute) { return w == 3 ? 1 : w == 1 ? 3 : w; }
        @Override int leaks() { return 2; }
        @Override int voiceDips(int x) { began.add(20); return super.voiceDips(x) * 3; }
    }

    static class Punt extends Boat {
        @Override int kind() { return 2; }
        @Override int dips(int s) { return s / 3; }
        @Override int goes(int w, int minute) { return minute % 2 == 1 ? 0 : super.goes(w, minute); }
        @Override int leaks() { return 0; }
        @Override int voiceLids(int x) { began.add(30); return super.voiceLids(x) - voiceTurns(1); }
    }

    static class Sime extends Boat {
        @Override int kind() { return 3; }
        @Override int dips(int s) { return s > 30 ? 2 * super.dips(s) : super.dips(s); }
        @Override int goes(int w, int minute) { return new int[] {0, 2, 3, 4, 1}[w]; }
        @Override int voiceTurns(int x) { began.add(40); return -super.voiceTurns(x); }
    }

    static class Wherry extends Skiff {
        @Override int kind() { return 4; }
        @Override int dips(int s) { return super.dips(s) + m; }
        @Override int leaks() { return super.leaks() + m / 3; }
        @Override int voiceTells(int x) { began.add(50); return super.voiceTells(x) - voiceDips(2); }
    }

    static class Raft extends Punt {
        @Override int kind() { return 5; }
        @Override int dips(int s) { return super.dips(s) + m % 3; }
        @Override int leaks() { return super.leaks() + 1; }
        @Override int voiceLids(int x) { began.add(60); return super.voiceLids(x + 1); }
    }

    static class Ghost extends Sime {
        @Override int kind() { return 6; }
        @Override int goes(int w, int minute) {
            int g = super.goes(w, minute);
            return g == 0 ? m % 5 : g;
        }
        @Override int leaks() { return 2 * super.leaks(); }
        @Override int voiceTurns(int x) { began.add(70); return super.voiceTurns(x) ^ number; }
        @Override int voiceTells(int x) { began.add(71); return voiceLids(x) - super.voiceTells(x); }
    }

    static Boat made(int kind, Boat like) {
        Boat b;
        switch (kind) {
            case 0: b = new Boat(); break;
            case 1: b = new Skiff(); break;
            case 2: b = new Punt(); break;
            case 3: b = new Sime(); break;
            case 4: b = new Wherry(); break;
            case 5: b = new Raft(); break;
            default: b = new Ghost(); break;
        }
        if (like != null) {
            b.number = like.number;
            b.m = like.m;
            b.cell = like.cell;
            b.barrel = like.barrel;
        }
        return b;
    }

    static boolean isA(Boat b, int kind) {
        switch (kind) {
            case 0: return true;
            case 1: return b instanceof Skiff;
            case 2: return b instanceof Punt;
            case 3: return b instanceof Sime;
            case 4: return b instanceof Wherry;
            case 5: return b instanceof Raft;
            default: return b instanceof Ghost;
        }
    }

    // ---- texts

    /** Reads bytes one by one; whether any TEXT goes on so is asked of each prefix by itself. */
    static int fault(String tape, String names) {
        for (int i = 0; i < tape.length(); i++) {
            if (!goesOn(tape.substring(0, i + 1), names)) {
                return i;
            }
        }
        return isWhole(tape, names) ? -1 : tape.length();
    }

    /** A prefix goes on if some ending that closes all that is open makes it whole. */
    static boolean goesOn(String prefix, String names) {
        for (int closing = 0; closing <= 5; closing++) {
            String tail = ")".repeat(closing);
            if (isWhole(prefix + tail, names) || isWhole(prefix + names.charAt(0) + tail, names)) {
                return true;
            }
        }
        return false;
    }

    static boolean isWhole(String text, String names) {
        return isText(text, names, 5);
    }

    /** The places of signs outside all brackets. */
    static List<Integer> places(String text, String signs) {
        List<Integer> found = new ArrayList<>();
        int open = 0;
        for (int i = 0; i < text.length(); i++) {
            char c = text.charAt(i);
            if (c == '(') {
                open++;
            } else if (c == ')') {
                open--;
            } else if (open == 0 && signs.indexOf(c) >= 0) {
                found.add(i);
            }
        }
        return found;
    }

    static final String[] LEVELS = {"|", "&", "<=>", "+-", "*/%"};

    static boolean isText(String text, String names, int mayOpen) {
        return isLevel(text, 0, names, mayOpen);
    }

    static boolean isLevel(String text, int level, String names, int mayOpen) {
        if (level == LEVELS.length) {
            return isUnit(text, names, mayOpen);
        }
        List<Integer> at = places(text, LEVELS[level]);
        if (level == 2 && at.size() > 1) {
            return false;
        }
        int from = 0;
        for (int i = 0; i <= at.size(); i++) {
            int to = i < at.size() ? at.get(i) : text.length();
            if (!isLevel(text.substring(from, to), level + 1, names, mayOpen)) {
                return false;
            }
            from = to + 1;
        }
        return true;
    }

    static boolean isUnit(String text, String names, int mayOpen) {
        if (text.isEmpty()) {
            return false;
        }
        if (text.matches("[0-9]{1,4}")) {
            return true;
        }
        if (text.length() == 1) {
            return names.contains(text);
        }
        if (text.charAt(0) == '!') {
            return mayOpen > 0 && isUnit(text.substring(1), names, mayOpen - 1);
        }
        return mayOpen > 0 && text.charAt(0) == '(' && closes(text)
            && isText(text.substring(1, text.length() - 1), names, mayOpen - 1);
    }

    /** Whether the bracket that opens the text closes at its very end. */
    static boolean closes(String text) {
        int open = 0;
        for (int i = 0; i < text.length(); i++) {
            if (text.charAt(i) == '(') {
                open++;
            } else if (text.charAt(i) == ')') {
                open--;
                if (open == 0) {
                    return i == text.length() - 1;
                }
            }
        }
        return false;
    }

    static int worth(String text, int level, String names, int[] values) {
        if (level == LEVELS.length) {
            return unitWorth(text, names, values);
        }
        List<Integer> at = places(text, LEVELS[level]);
        if (at.isEmpty()) {
            return worth(text, level + 1, names, values);
        }
        int last = at.get(at.size() - 1);
        int x = worth(text.substring(0, last), level, names, values);
        int y = worth(text.substring(last + 1), level + 1, names, values);
        switch (text.charAt(last)) {
            case '|': return x != 0 || y != 0 ? 1 : 0;
            case '&': return x != 0 && y != 0 ? 1 : 0;
            case '<': return x < y ? 1 : 0;
            case '=': return x == y ? 1 : 0;
            case '>': return x > y ? 1 : 0;
            case '+': return (int) ((long) x + y);
            case '-': return (int) ((long) x - y);
            case '*': return (int) ((long) x * y);
            case '/': return y == 0 ? 0 : (int) ((long) x / y);
            default: return y == 0 ? 0 : (int) ((long) x % y);
        }
    }

    static int unitWorth(String text, String names, int[] values) {
        char c = text.charAt(0);
        if (c == '!') {
            return unitWorth(text.substring(1), names, values) == 0 ? 1 : 0;
        }
        if (c == '(') {
            return worth(text.substring(1, text.length() - 1), 0, names, values);
        }
        return names.indexOf(c) >= 0 ? values[names.indexOf(c)] : Integer.parseInt(text);
    }

    // ---- the world

    static final String[] NAMES = {"sdt", "lbh"};

    static int held(int v) {
        return v < 0 ? 0 : v > 99 ? 99 : v;
    }

    static final class World {
        int[] deep = {0, 1, 2, 3, 4, 5, 6, 7, 8, 9, 0, 1, 2, 3, 4, 5};
        int[] stuff = new int[16];
        int minute = 0;
        int dark = 14;
        int[] list = new int[6];
        int[] wants = {10, 10, 10, 10, 10, 10};
        List<Boat> boats = new ArrayList<>();
        String[] texts = new String[2];
        String tape = "";
        List<Integer> waiting = new ArrayList<>();
        int z = 1;

        World copy() {
            World w = new World();
            w.deep = deep.clone();
            w.stuff = stuff.clone();
            w.minute = minute;
            w.dark = dark;
            w.list = list.clone();
            w.wants = wants.clone();
            for (Boat b : boats) {
                w.boats.add(made(b.kind(), b));
            }
            w.texts = texts.clone();
            w.tape = tape;
            w.waiting = new ArrayList<>(waiting);
            w.z = z;
            return w;
        }

        boolean isDark() {
            return minute % 20 < dark;
        }

        int gives(int use, int a, int b, int c) {
            if (texts[use] == null) {
                return held(use == 0 ? b : c != 0 ? a : 0);
            }
            return held(worth(texts[use], 0, NAMES[use], new int[] {a, b, c}));
        }

        int lost(Boat b) {
            return gives(1, b.leaks(), b.barrel, isDark() ? 0 : 1);
        }

        int settles(int cell) {
            return gives(0, stuff[cell], deep[cell], minute % 20);
        }

        int had() {
            return boats.stream().mapToInt(b -> b.barrel).sum();
        }

        int lying() {
            int all = 0;
            for (int s : stuff) {
                all += s;
            }
            return all;
        }

        World step(int led, int ledWay) {
            for (int i = 0; i < 16; i++) {
                stuff[i] = held(isDark() ? stuff[i] + settles(i) : stuff[i] - 7);
            }
            for (Boat b : boats) {
                int d = b.dips(stuff[b.cell]);
                d = Math.min(d, stuff[b.cell]);
                d = Math.min(d, 99 - b.barrel);
                stuff[b.cell] -= d;
                b.barrel += d;
            }
            for (Boat b : boats) {
                int w = b.number == led ? ledWay : b.goes(list[minute % 6], minute);
                int y = b.cell / 4 + new int[] {0, -1, 0, 1, 0}[w];
                int x = b.cell % 4 + new int[] {0, 0, 1, 0, -1}[w];
                if (y >= 0 && y <= 3 && x >= 0 && x <= 3) {
                    b.cell = 4 * y + x;
                }
            }
            for (Boat b : boats) {
                b.barrel = Math.max(0, b.barrel - lost(b));
            }
            minute++;
            return this;
        }

        World steps(int n) {
            for (int i = 0; i < n; i++) {
                step(-1, 0);
            }
            return this;
        }

        int draw() {
            z = z * 1103515245 + 12345;
            return z >>> 8;
        }

        void rekind(int boat, int kind) {
            boats.set(boat, made(kind, boats.get(boat)));
        }
    }

    World w = new World();
    World image = null;
    int images = 0;
    int[] told = new int[6];
    int[][] sheets = new int[4][];
    int[] bits = new int[4];
    List<Integer> trace = new ArrayList<>();

    private int err(int e) {
        told[LOW - e]++;
        return e;
    }

    private static boolean in(int v, int from, int to) {
        return v >= from && v <= to;
    }

    private boolean isBoat(int b) {
        return in(b, 0, w.boats.size() - 1);
    }

    int cell(int cell, int what, int v) {
        if (!in(cell, 0, 15) || !in(what, 0, 1) || !in(v, 0, what == 0 ? 9 : 99)) return err(BEYOND);
        int[] row = what == 0 ? w.deep : w.stuff;
        int old = row[cell];
        row[cell] = v;
        return old;
    }

    int ofCell(int cell, int what) {
        if (!in(cell, 0, 15) || !in(what, 0, 3)) return err(BEYOND);
        if (what == 0) return w.deep[cell];
        if (what == 1) return w.stuff[cell];
        if (what == 3) return w.settles(cell);
        int set = 0;
        for (Boat b : w.boats) {
            if (b.cell == cell) set += (int) Math.pow(2, b.number);
        }
        return set;
    }

    int list(int place, int way) {
        if (!in(place, 0, 5) || !in(way, 0, 4)) return err(BEYOND);
        int old = w.list[place];
        w.list[place] = way;
        return old;
    }

    int ofList(int place) {
        return in(place, 0, 5) ? w.list[place] : err(BEYOND);
    }

    int dark(int v) {
        if (!in(v, 1, 20)) return err(BEYOND);
        int old = w.dark;
        w.dark = v;
        return old;
    }

    int wants(int wearer, int v) {
        if (!in(wearer, 0, 5) || !in(v, 0, 99)) return err(BEYOND);
        int old = w.wants[wearer];
        w.wants[wearer] = v;
        return old;
    }

    int ofWearer(int wearer) {
        return in(wearer, 0, 5) ? w.wants[wearer] : err(BEYOND);
    }

    int boat(int km, int cell) {
        if (!in(km, 0, 69) || !in(cell, 0, 15)) return err(BEYOND);
        if (w.boats.size() == 8) return err(FULL);
        Boat b = made(km / 10, null);
        b.m = km % 10;
        b.cell = cell;
        b.number = w.boats.size();
        w.boats.add(b);
        return b.number;
    }

    int ofBoat(int boat, int what) {
        if (!isBoat(boat) || !in(what, 0, 7)) return err(BEYOND);
        Boat b = w.boats.get(boat);
        return new int[] {b.kind(), b.m, b.cell, b.barrel, b.dips(w.stuff[b.cell]),
            b.goes(w.list[w.minute % 6], w.minute), b.leaks(), w.lost(b)}[what];
    }

    int change(int boat, int what, int v) {
        if (!isBoat(boat) || !in(what, 0, 1) || !in(v, 0, what == 0 ? 15 : 99)) return err(BEYOND);
        Boat b = w.boats.get(boat);
        int old = what == 0 ? b.cell : b.barrel;
        if (what == 0) b.cell = v; else b.barrel = v;
        return old;
    }

    int become(int boat, int km) {
        if (!isBoat(boat) || !in(km, 0, 69)) return err(BEYOND);
        int old = w.boats.get(boat).kind();
        w.rekind(boat, km / 10);
        w.boats.get(boat).m = km % 10;
        return old;
    }

    int as(int boat, int kind) {
        if (!isBoat(boat) || !in(kind, 0, 6)) return err(BEYOND);
        Boat b = w.boats.get(boat);
        return isA(b, kind) ? b.m : err(KIND);
    }

    int feed(long word, int n) {
        if (!in(n, 1, 8)) return err(BEYOND);
        if (w.tape.length() + n > 50) return err(FULL);
        long rest = word;
        for (int i = 0; i < n; i++) {
            w.tape += (char) (rest & 255);
            rest >>= 8;
        }
        return w.tape.length();
    }

    int text(int use) {
        if (!in(use, 0, 1)) return err(BEYOND);
        int fault = fault(w.tape, NAMES[use]);
        if (fault < 0) w.texts[use] = w.tape;
        w.tape = "";
        return fault < 0 ? 1 : -10 - fault;
    }

    int law(int use, int a, int b, int c) {
        return in(use, 0, 1) ? w.gives(use, a, b, c) : err(BEYOND);
    }

    int minutes(int n) {
        if (!in(n, 1, 60)) return err(BEYOND);
        if (w.minute + n > 9999) return err(STATE);
        return w.steps(n).had();
    }

    int loose(int n) {
        if (!in(n, 1, 40)) return err(BEYOND);
        if (w.minute + n > 9999) return err(STATE);
        for (int i = 0; i < n; i++) {
            w.list[w.minute % 6] = w.draw() % 5;
            w.stuff[w.draw() % 16] = 0;
            w.step(-1, 0);
        }
        return w.had();
    }

    int then(int n, int what) {
        if (!in(n, 0, 60) || !in(what, 0, 1)) return err(BEYOND);
        World t = w.copy().steps(n);
        return what == 0 ? t.had() : t.lying();
    }

    int on(int boat, int n, int what) {
        if (!isBoat(boat) || !in(n, 0, 60) || !in(what, 0, 1)) return err(BEYOND);
        Boat b = w.copy().steps(n).boats.get(boat);
        return what == 0 ? b.cell : b.barrel;
    }

    int full(int boat, int v) {
        if (!isBoat(boat) || !in(v, 0, 99)) return err(BEYOND);
        World t = w.copy();
        for (int n = 0; n <= 60; n++) {
            if (t.boats.get(boat).barrel >= v) return n;
            t.step(-1, 0);
        }
        return err(NONE);
    }

    private static int firstMost(List<Integer> had) {
        int best = 0;
        for (int i = 1; i < had.size(); i++) {
            if (had.get(i) > had.get(best)) best = i;
        }
        return best;
    }

    int wayFor(int place, int n) {
        if (!in(place, 0, 5) || !in(n, 0, 60)) return err(BEYOND);
        List<Integer> had = new ArrayList<>();
        for (int way = 0; way <= 4; way++) {
            World t = w.copy();
            t.list[place] = way;
            had.add(t.steps(n).had());
        }
        return firstMost(had);
    }

    int cellFor(int boat, int n) {
        if (!isBoat(boat) || !in(n, 0, 60)) return err(BEYOND);
        List<Integer> had = new ArrayList<>();
        for (int cell = 0; cell <= 15; cell++) {
            World t = w.copy();
            t.boats.get(boat).cell = cell;
            had.add(t.steps(n).had());
        }
        return firstMost(had);
    }

    int kindFor(int boat, int n) {
        if (!isBoat(boat) || !in(n, 0, 60)) return err(BEYOND);
        List<Integer> had = new ArrayList<>();
        for (int kind = 0; kind <= 6; kind++) {
            World t = w.copy();
            t.rekind(boat, kind);
            had.add(t.steps(n).had());
        }
        return firstMost(had);
    }

    int route(int boat, int n, int what) {
        if (!isBoat(boat) || !in(n, 0, 4) || !in(what, 0, 1)) return err(BEYOND);
        int bestRow = 0;
        int bestHad = -1;
        int rows = (int) Math.pow(5, n);
        for (int r = 0; r < rows; r++) {
            String digits = Integer.toString(rows + r, 5).substring(1);
            World t = w.copy();
            for (int i = 0; i < n; i++) {
                t.step(boat, digits.charAt(i) - '0');
            }
            if (t.had() > bestHad) {
                bestHad = t.had();
                bestRow = Integer.parseInt("1" + digits);
            }
        }
        return what == 0 ? bestRow : bestHad;
    }

    int darkFor(int n, int v) {
        if (!in(n, 0, 60) || !in(v, 0, 792)) return err(BEYOND);
        for (int dark = 1; dark <= 20; dark++) {
            World t = w.copy();
            t.dark = dark;
            if (t.steps(n).had() >= v) return dark;
        }
        return err(NONE);
    }

    private int bestServed;
    private int[] bestRow;

    private void tryRows(int[] row, int wearer, int served) {
        if (wearer == 6) {
            if (served > bestServed) {
                bestServed = served;
                bestRow = row.clone();
            }
            return;
        }
        for (int b = 0; b <= 8; b++) {
            boolean taken = false;
            for (int i = 0; i < wearer; i++) {
                taken |= b < 8 && row[i] == b;
            }
            if (taken || (b < 8 && !isBoat(b))) continue;
            row[wearer] = b;
            int more = b == 8 ? 0 : Math.min(w.wants[wearer], w.boats.get(b).barrel);
            tryRows(row, wearer + 1, served + more);
        }
    }

    int match(int what) {
        if (!in(what, -1, 5)) return err(BEYOND);
        bestServed = -1;
        tryRows(new int[6], 0, 0);
        return what == -1 ? bestServed : bestRow[what];
    }

    int blend(int v) {
        if (!in(v, 0, 198)) return err(BEYOND);
        if (w.boats.size() < 2) return err(NONE);
        int best = -1;
        int least = Integer.MAX_VALUE;
        for (int i = 0; i < w.boats.size(); i++) {
            for (int j = i + 1; j < w.boats.size(); j++) {
                int apart = Math.abs(w.boats.get(i).barrel + w.boats.get(j).barrel - v);
                if (apart < least) {
                    least = apart;
                    best = 10 * i + j;
                }
            }
        }
        return best;
    }

    private boolean agrees(World t, int[] row) {
        for (int i = 0; i < row.length; i++) {
            if (t.copy().steps(i + 1).had() != row[i]) return false;
        }
        return true;
    }

    int which(int sheet, int boat) {
        if (!in(sheet, 0, 3) || !isBoat(boat)) return err(BEYOND);
        if (sheets[sheet] == null) return err(NONE);
        int set = 0;
        for (int kind = 0; kind <= 6; kind++) {
            World t = w.copy();
            t.rekind(boat, kind);
            if (agrees(t, sheets[sheet])) set += 1 << kind;
        }
        return set;
    }

    int lay(int sheet, int cell, int what) {
        if (!in(sheet, 0, 3) || !in(cell, 0, 15) || !in(what, 0, 1)) return err(BEYOND);
        if (sheets[sheet] == null) return err(NONE);
        List<Integer> found = new ArrayList<>();
        for (int s = 0; s <= 99; s++) {
            World t = w.copy();
            t.stuff[cell] = s;
            if (agrees(t, sheets[sheet])) found.add(s);
        }
        if (what == 0) return found.size();
        return found.isEmpty() ? err(NONE) : found.get(0);
    }

    int odds(int n, int v, int part) {
        if (!in(n, 0, 30) || !in(v, 0, 792) || !in(part, 0, 1)) return err(BEYOND);
        int above = 0;
        for (int dark = 1; dark <= 20; dark++) {
            World t = w.copy();
            t.dark = dark;
            if (t.steps(n).had() >= v) above++;
        }
        int gcd = java.math.BigInteger.valueOf(above).gcd(java.math.BigInteger.valueOf(20)).intValue();
        return (part == 0 ? above : 20) / gcd;
    }

    int seed(int v) {
        int old = w.z;
        w.z = v;
        return old;
    }

    int voice(int boat, int act, int x) {
        if (!isBoat(boat) || !in(act, 0, 3)) return err(BEYOND);
        Boat b = w.boats.get(boat);
        b.began.clear();
        int answer = act == 0 ? b.voiceDips(x) : act == 1 ? b.voiceLids(x) : act == 2 ? b.voiceTurns(x) : b.voiceTells(x);
        trace = new ArrayList<>(b.began.subList(0, Math.min(40, b.began.size())));
        return answer;
    }

    int trace(int i) {
        return in(i, 0, trace.size() - 1) ? trace.get(i) : err(NONE);
    }

    int sheet(int sheet, int b, int n) {
        if (!in(sheet, 0, 3) || !(b == 0 || b == 8 || b == 16 || b == 32)) return err(BEYOND);
        if (b == 0) {
            sheets[sheet] = null;
            return 1;
        }
        if (n < 0) return err(STATE);
        if (n > 40) return err(BEYOND);
        sheets[sheet] = new int[n];
        bits[sheet] = b;
        return 1;
    }

    int put(int sheet, int i, int v) {
        if (!in(sheet, 0, 3)) return err(BEYOND);
        if (sheets[sheet] == null) return err(NONE);
        if (!in(i, 0, sheets[sheet].length - 1)) return err(BEYOND);
        int away = 32 - bits[sheet];
        sheets[sheet][i] = v << away >> away;
        return 1;
    }

    int move(int sheet, int i, int other, int j, int n) {
        if (!in(sheet, 0, 3) || !in(other, 0, 3)) return err(BEYOND);
        if (sheets[sheet] == null || sheets[other] == null) return err(NONE);
        if (bits[sheet] != bits[other]) return err(KIND);
        if (n < 0 || i < 0 || j < 0) return err(BEYOND);
        if ((long) i + n > sheets[sheet].length || (long) j + n > sheets[other].length) return err(BEYOND);
        int[] was = sheets[sheet].clone();
        for (int k = 0; k < n; k++) {
            sheets[other][j + k] = was[i + k];
        }
        return n;
    }

    int lies(int sheet) {
        if (!in(sheet, 0, 3)) return err(BEYOND);
        if (sheets[sheet] == null) return err(NONE);
        int n = 0;
        while (n < sheets[sheet].length && n < 16 && in(sheets[sheet][n], 0, 99)) {
            w.stuff[n] = sheets[sheet][n];
            n++;
        }
        return n;
    }

    int judge(int sheet) {
        if (!in(sheet, 0, 3)) return err(BEYOND);
        if (sheets[sheet] == null) return err(NONE);
        int[] barrels = w.boats.stream().mapToInt(b -> b.barrel).toArray();
        return java.util.Arrays.mismatch(sheets[sheet], barrels);
    }

    int image() {
        image = w.copy();
        return ++images;
    }

    int restore() {
        if (image == null) return err(NONE);
        w = image.copy();
        return w.minute;
    }

    int tell(int v) {
        if (w.waiting.size() == 20) return err(FULL);
        w.waiting.add(v);
        return w.waiting.size();
    }

    int check() {
        int answer = 0;
        for (int i = w.waiting.size() - 1; i >= 0; i--) {
            if (w.copy().steps(i + 1).had() != w.waiting.get(i)) answer = 1 + i;
        }
        w.waiting.clear();
        return answer;
    }

    int count(int what) {
        if (!in(what, 0, 10)) return err(BEYOND);
        int wanted = 0;
        for (int v : w.wants) {
            wanted += v;
        }
        return new int[] {w.boats.size(), w.minute, w.had(), w.lying(), w.dark, w.isDark() ? 0 : 1, wanted,
            w.tape.length(), w.waiting.size(), trace.size(), w.z}[what];
    }

    int told(int k) {
        return in(k, 1, 5) ? told[k] : err(BEYOND);
    }
}
