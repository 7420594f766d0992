import java.util.function.IntSupplier;

/** Each promise of the document by itself: ordinary inputs, the edges that it names, and wrong inputs. */
public final class PromisesTest {
    private static final int BEYOND = -1000000001;
    private static final int NONE = -1000000002;
    private static final int STATE = -1000000003;
    private static final int FULL = -1000000004;
    private static final int KIND = -1000000005;
    private static final int LEAST = Integer.MIN_VALUE;
    private static final int GREATEST = Integer.MAX_VALUE;

    private static int asked = 0;
    private static int wrong = 0;
    private static int promise = 0;

    private static void due(String what, long got, long want) {
        asked++;
        if (got != want) {
            wrong++;
            System.out.println("promise " + promise + ": " + what + " answered " + got + ", due is " + want);
        }
    }

    /** The call answers that ERROR, which told() counts once; that nothing else changes the tests of edges ask. */
    private static void errs(IndigoBoats x, String what, int error, IntSupplier call) {
        int k = -1000000000 - error;
        int told = x.told(k);
        due(what, call.getAsInt(), error);
        due("told(" + k + ") behind " + what, x.told(k), told + 1);
    }

    private static String seen(IndigoBoats x) {
        StringBuilder all = new StringBuilder();
        for (int i = 0; i <= 10; i++) {
            all.append(x.count(i)).append(' ');
        }
        for (int i = 0; i < 16; i++) {
            all.append(x.ofCell(i, 0)).append(' ').append(x.ofCell(i, 1)).append(' ');
        }
        for (int i = 0; i < 6; i++) {
            all.append(x.ofList(i)).append(' ').append(x.ofWearer(i)).append(' ');
        }
        for (int b = 0; b < x.count(0); b++) {
            for (int i = 0; i < 4; i++) {
                all.append(x.ofBoat(b, i)).append(' ');
            }
        }
        for (int i = 0; i < x.count(9); i++) {
            all.append(x.trace(i)).append(' ');
        }
        for (int i = 0; i < 40; i += 6) {
            all.append(x.law(0, i, 2 * i, i % 20)).append(' ').append(x.law(1, i % 5, i, i % 2)).append(' ');
        }
        return all.toString();
    }

    private static int feedAll(IndigoBoats x, String text) {
        int n = 0;
        for (int i = 0; i < text.length(); i++) {
            n = x.feed(text.charAt(i), 1);
        }
        return n;
    }

    private static int written(IndigoBoats x, int use, String text) {
        feedAll(x, text);
        return x.text(use);
    }

    /** A run of its own: BOAT, WHERRY 47 and GHOST 60 on CELLS 5, 5 and 9, where 40, 40 and 9 lie. */
    private static IndigoBoats three() {
        IndigoBoats x = new IndigoBoats();
        x.boat(3, 5);
        x.boat(47, 5);
        x.boat(60, 9);
        x.cell(5, 1, 40);
        x.cell(9, 1, 9);
        return x;
    }

    private static void sheetOf(IndigoBoats x, int sheet, int bits, int... numbers) {
        x.sheet(sheet, bits, numbers.length);
        for (int i = 0; i < numbers.length; i++) {
            x.put(sheet, i, numbers[i]);
        }
    }

    public static void main(String[] args) {
        promise1New();
        promises2And3Cells();
        promises4To8ListDarkWearers();
        promise9Boat();
        promise10OfBoat();
        promises11To13ChangeBecomeAs();
        promise14Feed();
        promise15Text();
        promise16Law();
        promise17Minutes();
        promise17MinutesEnd();
        promise18Loose();
        promises19To21Ahead();
        edgesOfThought();
        promises22To24Best();
        promise25Route();
        promise26DarkFor();
        promise27Match();
        promise28Blend();
        promise29Which();
        promise30Lay();
        promise31Odds();
        promise32Seed();
        promises33And34Voices();
        promises35And36Sheets();
        promise37Move();
        promise38Lies();
        promise39Judge();
        promises40And41Images();
        promises42And43Tell();
        promises44And45Counts();
        System.out.println(asked + " asked, " + wrong + " wrong");
        if (wrong != 0) {
            System.exit(1);
        }
    }

    private static void promise1New() {
        promise = 1;
        IndigoBoats x = new IndigoBoats();
        int[] counts = {0, 0, 0, 0, 14, 0, 60, 0, 0, 0, 1};
        for (int i = 0; i < counts.length; i++) {
            due("count(" + i + ")", x.count(i), counts[i]);
        }
        for (int i = 0; i < 16; i++) {
            due("DEEP of " + i, x.ofCell(i, 0), i % 10);
            due("STUFF of " + i, x.ofCell(i, 1), 0);
            due("who is on " + i, x.ofCell(i, 2), 0);
        }
        for (int i = 0; i < 6; i++) {
            due("WAY of " + i, x.ofList(i), 0);
            due("WANTS of " + i, x.ofWearer(i), 10);
        }
        for (int k = 1; k <= 5; k++) {
            due("told(" + k + ")", x.told(k), 0);
        }
        for (int i = 0; i < 4; i++) {
            due("lies(" + i + ")", x.lies(i), NONE);
        }
        due("restore()", x.restore(), NONE);
        due("trace(0)", x.trace(0), NONE);
        IndigoBoats y = new IndigoBoats();
        x.cell(0, 1, 50);
        due("STUFF of another object", y.ofCell(0, 1), 0);
    }

    private static void promises2And3Cells() {
        promise = 2;
        IndigoBoats x = three();
        due("cell(15, 0, 9)", x.cell(15, 0, 9), 5);
        due("cell(15, 0, 0)", x.cell(15, 0, 0), 9);
        due("cell(15, 1, 99)", x.cell(15, 1, 99), 0);
        due("cell(15, 1, 0)", x.cell(15, 1, 0), 99);
        for (int c : new int[] {-1, 16, LEAST, GREATEST}) {
            errs(x, "cell " + c, BEYOND, () -> x.cell(c, 0, 1));
            errs(x, "what of cell(..) " + (c == 16 ? 2 : c), BEYOND, () -> x.cell(1, c == 16 ? 2 : c, 1));
            errs(x, "ofCell " + c, BEYOND, () -> x.ofCell(c, 0));
            errs(x, "what of ofCell " + (c == 16 ? 4 : c), BEYOND, () -> x.ofCell(1, c == 16 ? 4 : c));
        }
        errs(x, "DEEP 10", BEYOND, () -> x.cell(1, 0, 10));
        errs(x, "DEEP -1", BEYOND, () -> x.cell(1, 0, -1));
        errs(x, "STUFF 100", BEYOND, () -> x.cell(1, 1, 100));
        errs(x, "STUFF -1", BEYOND, () -> x.cell(1, 1, -1));
        promise = 3;
        x.cell(7, 0, 3);
        due("ofCell(7, 0)", x.ofCell(7, 0), 3);
        due("ofCell(5, 1)", x.ofCell(5, 1), 40);
        due("ofCell(5, 2)", x.ofCell(5, 2), 3);
        due("ofCell(9, 2)", x.ofCell(9, 2), 4);
        due("ofCell(0, 2)", x.ofCell(0, 2), 0);
        due("ofCell(7, 3) without a TEXT", x.ofCell(7, 3), 3);
        due("TEXT", written(x, 0, "s*2+d-t"), 1);
        due("ofCell(9, 3)", x.ofCell(9, 3), 27);
        x.minutes(19);
        due("light", x.count(5), 1);
        due("ofCell(8, 3) in the light", x.ofCell(8, 3), Math.min(99, 2 * x.ofCell(8, 1) + 8 - 19));
        x.cell(7, 1, 0);
        due("ofCell(7, 3) held at 0", x.ofCell(7, 3), 0);
        x.cell(7, 1, 99);
        due("ofCell(7, 3) held at 99", x.ofCell(7, 3), 99);
        x.cell(7, 1, 11);
        due("ofCell(7, 3) in MINUTE 19", x.ofCell(7, 3), 22 + 3 - 19);
        x.minutes(1);
        x.cell(7, 1, 11);
        due("ofCell(7, 3) in MINUTE 20", x.ofCell(7, 3), 25);
    }

    private static void promises4To8ListDarkWearers() {
        IndigoBoats x = new IndigoBoats();
        for (int i = 0; i < 6; i++) {
            int place = i;
            promise = 4;
            due("list", x.list(place, 4), 0);
            due("list", x.list(place, place % 5), 4);
            promise = 5;
            due("ofList", x.ofList(place), place % 5);
            promise = 7;
            due("wants", x.wants(place, 99), 10);
            due("wants", x.wants(place, place), 99);
            promise = 8;
            due("ofWearer", x.ofWearer(place), place);
        }
        for (int v : new int[] {-1, 6, LEAST, GREATEST}) {
            promise = 4;
            errs(x, "place " + v, BEYOND, () -> x.list(v, 0));
            errs(x, "WAY " + (v == 6 ? 5 : v), BEYOND, () -> x.list(0, v == 6 ? 5 : v));
            promise = 5;
            errs(x, "place " + v, BEYOND, () -> x.ofList(v));
            promise = 7;
            errs(x, "WEARER " + v, BEYOND, () -> x.wants(v, 0));
            errs(x, "WANTS " + (v == 6 ? 100 : v), BEYOND, () -> x.wants(0, v == 6 ? 100 : v));
            promise = 8;
            errs(x, "WEARER " + v, BEYOND, () -> x.ofWearer(v));
            promise = 6;
            errs(x, "DARK " + (v == 6 ? 21 : v), BEYOND, () -> x.dark(v == 6 ? 21 : v));
        }
        promise = 6;
        errs(x, "DARK 0", BEYOND, () -> x.dark(0));
        due("dark(1)", x.dark(1), 14);
        due("dark(20)", x.dark(20), 1);
        due("count(4)", x.count(4), 20);
        x.dark(1);
        due("light in MINUTE 0", x.count(5), 0);
        x.minutes(1);
        due("light in MINUTE 1", x.count(5), 1);
        x.minutes(19);
        due("light in MINUTE 20", x.count(5), 0);
    }

    private static void promise9Boat() {
        promise = 9;
        IndigoBoats x = new IndigoBoats();
        errs(x, "km -1", BEYOND, () -> x.boat(-1, 0));
        errs(x, "km 70", BEYOND, () -> x.boat(70, 0));
        errs(x, "km least", BEYOND, () -> x.boat(LEAST, 0));
        errs(x, "km greatest", BEYOND, () -> x.boat(GREATEST, 0));
        errs(x, "CELL -1", BEYOND, () -> x.boat(0, -1));
        errs(x, "CELL 16", BEYOND, () -> x.boat(0, 16));
        for (int i = 0; i < 8; i++) {
            due("boat", x.boat(i == 7 ? 69 : 10 * i + i, 2 * i), i);
            due("its KIND", x.ofBoat(i, 0), i == 7 ? 6 : i);
            due("its m", x.ofBoat(i, 1), i == 7 ? 9 : i);
            due("its CELL", x.ofBoat(i, 2), 2 * i);
            due("its BARREL", x.ofBoat(i, 3), 0);
            due("BOATS", x.count(0), i + 1);
        }
        errs(x, "a ninth", FULL, () -> x.boat(0, 0));
        errs(x, "a ninth of no KIND", BEYOND, () -> x.boat(70, 0));
        errs(x, "a ninth on no CELL", BEYOND, () -> x.boat(0, 16));
    }

    private static void promise10OfBoat() {
        promise = 10;
        IndigoBoats x = new IndigoBoats();
        errs(x, "no BOATS", BEYOND, () -> x.ofBoat(0, 0));
        x.boat(0, 6);
        for (int v : new int[] {-1, 8, LEAST, GREATEST}) {
            errs(x, "what " + v, BEYOND, () -> x.ofBoat(0, v));
            errs(x, "BOAT " + v, BEYOND, () -> x.ofBoat(v, 0));
        }
        errs(x, "BOAT 1", BEYOND, () -> x.ofBoat(1, 0));
        // DIPS for each KIND with m 8, of STUFF 0, 30, 31, 99
        int[] stuff = {0, 30, 31, 99};
        int[][] dips = {{5, 5, 5, 5}, {3, 3, 3, 3}, {0, 10, 10, 33}, {5, 5, 10, 10}, {11, 11, 11, 11},
            {2, 12, 12, 35}, {5, 5, 10, 10}};
        int[] leaks = {1, 2, 0, 1, 4, 1, 2};
        // GOES for each KIND with m 8, by WAYS 0 .. 4, in an even MINUTE, then in an odd one
        int[][] even = {{0, 1, 2, 3, 4}, {0, 3, 2, 1, 4}, {0, 1, 2, 3, 4}, {0, 2, 3, 4, 1}, {0, 3, 2, 1, 4},
            {0, 1, 2, 3, 4}, {3, 2, 3, 4, 1}};
        for (int kind = 0; kind < 7; kind++) {
            x.become(0, 10 * kind + 8);
            due("KIND", x.ofBoat(0, 0), kind);
            due("m", x.ofBoat(0, 1), 8);
            due("LEAKS of KIND " + kind, x.ofBoat(0, 6), leaks[kind]);
            for (int i = 0; i < 4; i++) {
                x.cell(6, 1, stuff[i]);
                due("DIPS of KIND " + kind + " of " + stuff[i], x.ofBoat(0, 4), dips[kind][i]);
            }
        }
        for (int minute = 0; minute < 2; minute++) {
            for (int kind = 0; kind < 7; kind++) {
                x.become(0, 10 * kind + 8);
                for (int way = 0; way < 5; way++) {
                    x.list(minute, way);
                    int goes = minute == 1 && (kind == 2 || kind == 5) ? 0 : even[kind][way];
                    due("GOES of KIND " + kind + " by " + way + " in MINUTE " + minute, x.ofBoat(0, 5), goes);
                }
            }
            x.become(0, 65);
            x.list(minute, 0);
            due("GOES of a GHOST with m 5", x.ofBoat(0, 5), 0);
            x.minutes(1);
        }
        x.become(0, 49);
        x.change(0, 1, 50);
        due("BARREL", x.ofBoat(0, 3), 50);
        due("LEAKS of a WHERRY with m 9", x.ofBoat(0, 6), 5);
        due("LOST in the dark", x.ofBoat(0, 7), 0);
        x.dark(1);
        due("LOST in the light", x.ofBoat(0, 7), 5);
        written(x, 1, "b+l*10-h");
        due("LOST by a TEXT", x.ofBoat(0, 7), 99);
        x.change(0, 1, 7);
        due("LOST by a TEXT", x.ofBoat(0, 7), 56);
        x.dark(20);
        due("LOST by a TEXT in the dark", x.ofBoat(0, 7), 57);
        due("CELL", x.ofBoat(0, 2), x.change(0, 0, 3));
    }

    private static void promises11To13ChangeBecomeAs() {
        IndigoBoats x = three();
        promise = 11;
        due("CELL", x.change(0, 0, 15), 5);
        due("CELL", x.change(0, 0, 0), 15);
        due("BARREL", x.change(0, 1, 99), 0);
        due("BARREL", x.change(0, 1, 7), 99);
        due("HAD", x.count(2), 7);
        due("who is on 0", x.ofCell(0, 2), 1);
        for (int v : new int[] {-1, 3, LEAST, GREATEST}) {
            promise = 11;
            errs(x, "BOAT " + v, BEYOND, () -> x.change(v, 0, 0));
            errs(x, "what " + v, BEYOND, () -> x.change(0, v == 3 ? 2 : v, 0));
            errs(x, "CELL " + v, BEYOND, () -> x.change(0, 0, v == 3 ? 16 : v));
            errs(x, "BARREL " + v, BEYOND, () -> x.change(0, 1, v == 3 ? 100 : v));
            promise = 12;
            errs(x, "BOAT " + v, BEYOND, () -> x.become(v, 0));
            errs(x, "km " + v, BEYOND, () -> x.become(0, v == 3 ? 70 : v));
            promise = 13;
            errs(x, "BOAT " + v, BEYOND, () -> x.as(v, 0));
            errs(x, "KIND " + v, BEYOND, () -> x.as(0, v == 3 ? 7 : v));
        }
        promise = 12;
        due("become(0, 69)", x.become(0, 69), 0);
        due("become(0, 12)", x.become(0, 12), 6);
        due("KIND", x.ofBoat(0, 0), 1);
        due("m", x.ofBoat(0, 1), 2);
        due("CELL stays", x.ofBoat(0, 2), 0);
        due("BARREL stays", x.ofBoat(0, 3), 7);
        promise = 13;
        int[] sets = {1, 3, 5, 9, 19, 37, 73};
        for (int kind = 0; kind < 7; kind++) {
            x.become(0, 10 * kind + 4);
            for (int other = 0; other < 7; other++) {
                int as = other;
                if ((sets[kind] >> other & 1) == 1) {
                    due("as(" + kind + ", " + other + ")", x.as(0, other), 4);
                } else {
                    errs(x, "as(" + kind + ", " + other + ")", KIND, () -> x.as(0, as));
                }
            }
        }
    }

    private static void promise14Feed() {
        promise = 14;
        IndigoBoats x = new IndigoBoats();
        for (int v : new int[] {0, 9, -1, LEAST, GREATEST}) {
            errs(x, "n " + v, BEYOND, () -> x.feed(0L, v));
        }
        due("s*2", x.feed(0x77777777_00322a73L, 3), 3);
        due("count(7)", x.count(7), 3);
        due("+d+t*100", x.feed(0x3030312a742b642bL, 8), 11);
        due("text(0)", x.text(0), 1);
        due("law(0, 1, 2, 0)", x.law(0, 1, 2, 0), 4);
        due("law(0, 0, 0, 1)", x.law(0, 0, 0, 1), 99);
        for (int i = 1; i <= 6; i++) {
            due("feed", x.feed(-1L, 8), 8 * i);
        }
        errs(x, "51 bytes", FULL, () -> x.feed(0L, 3));
        due("50 bytes", x.feed(0L, 2), 50);
        errs(x, "51 bytes", FULL, () -> x.feed(0L, 1));
        errs(x, "n 9 when full", BEYOND, () -> x.feed(0L, 9));
        due("text(0)", x.text(0), -10);
    }

    private static void promise15Text() {
        promise = 15;
        IndigoBoats x = new IndigoBoats();
        String[] good = {"s", "0", "9999", "!!!!!s", "((((((s)))))".substring(1), "(s<d)<t", "s<d|d<t&s=1", "!s*!d",
            "(!(!(s)))+(!(!(s)))", "1-1-1", "s%d/t*s", "0007", "(s)", "!(s)", "s+d=t-1"};
        for (String text : good) {
            due("TEXT " + text, written(x, 0, text), 1);
            due("THE TAPE", x.count(7), 0);
        }
        String[] bad = {"", "s+", "(", "(s", "!", "s<", "12345", "s<d<t", "s=d>t", "ss", "s)", "()", "+s", "-1", "s+-1",
            "l", "b", "h", "x", "!!!!!!s", "((((((s))))))", "!(!(!(s)))", "s s", "s d", "1s", "(s))", "(s<d=t)", "s|", "s&&d",
            "s||d", "s==d", "*", "s!d", "(s)(d)", "1(", "9999(", "(1234)5", "s" + (char) 0, "" + (char) 243, "S", "s1"};
        int[] faults = {0, 2, 1, 2, 1, 2, 4, 3, 3, 1, 1, 1, 0, 0, 2,
            0, 0, 0, 0, 5, 5, 5, 1, 1, 1, 3, 4, 2, 2,
            2, 2, 0, 1, 3, 1, 4, 6, 1, 0, 0, 1};
        due("as many", bad.length, faults.length);
        IndigoBoats y = new IndigoBoats();
        written(y, 0, "s+7");
        for (int i = 0; i < bad.length; i++) {
            due("FAULT of " + bad[i], written(y, 0, bad[i]), -10 - faults[i]);
            due("THE TAPE", y.count(7), 0);
            due("the one ahead", y.law(0, 3, 0, 0), 10);
        }
        due("not counted", y.told(1) + y.told(2) + y.told(3) + y.told(4) + y.told(5), 0);
        promise15TextsOfBothUses();
        promise15FiftyBytes();
    }

    private static void promise15TextsOfBothUses() {
        IndigoBoats x = new IndigoBoats();
        written(x, 0, "s+7");
        due("a NAME of the other USE", written(x, 1, "s"), -10);
        due("a NAME of the other USE", written(x, 1, "l+d"), -12);
        due("NAMES of LOST", written(x, 1, "l*100+b*10+h"), 1);
        due("SETTLES stays", x.law(0, 3, 0, 0), 10);
        feedAll(x, "d");
        for (int v : new int[] {-1, 2, LEAST, GREATEST}) {
            errs(x, "USE " + v, BEYOND, () -> x.text(v));
        }
        due("THE TAPE stays", x.count(7), 1);
        due("text(0)", x.text(0), 1);
        due("in place of the one ahead", x.law(0, 3, 5, 0), 5);
    }

    private static void promise15FiftyBytes() {
        IndigoBoats x = new IndigoBoats();
        String fifty = "s" + "+1".repeat(24) + "+";
        due("50 bytes that end too early", written(x, 0, fifty), -60);
        due("49 bytes", written(x, 0, fifty.substring(0, 49)), 1);
        due("49 bytes", x.law(0, 0, 0, 0), 24);
        due("50 bytes that end too early", written(x, 0, "1+" + fifty.substring(0, 48)), -60);
        due("50 bytes", written(x, 0, fifty.substring(0, 48) + "10"), 1);
        due("50 bytes", x.law(0, 0, 0, 0), 33);
    }

    private static int worth(IndigoBoats x, String text, int a, int b, int c) {
        due("TEXT " + text, written(x, 0, text), 1);
        return x.law(0, a, b, c);
    }

    private static void promise16Law() {
        promise = 16;
        IndigoBoats x = new IndigoBoats();
        due("SETTLES without a TEXT", x.law(0, 1, 2, 3), 2);
        due("SETTLES without a TEXT, held", x.law(0, 1, 200, 3), 99);
        due("SETTLES without a TEXT, held", x.law(0, 1, -200, 3), 0);
        due("LOST without a TEXT, dark", x.law(1, 5, 2, 0), 0);
        due("LOST without a TEXT, light", x.law(1, 5, 2, 1), 5);
        due("LOST without a TEXT, light", x.law(1, 5, 2, -3), 5);
        due("LOST without a TEXT, held", x.law(1, 500, 2, 1), 99);
        due("LOST without a TEXT, held", x.law(1, LEAST, 2, 1), 0);
        for (int v : new int[] {-1, 2, LEAST, GREATEST}) {
            errs(x, "USE " + v, BEYOND, () -> x.law(v, 0, 0, 0));
        }
        due("precedence", worth(x, "2+3*4", 0, 0, 0), 14);
        due("from the left", worth(x, "20-5-3", 0, 0, 0), 12);
        due("from the left", worth(x, "90/3/5*2%7", 0, 0, 0), 5);
        due("brackets", worth(x, "(2+3)*4", 0, 0, 0), 20);
        due("cut toward 0", worth(x, "0-(s/d)", -7, 2, 0), 3);
        due("rest", worth(x, "0-s%d", -7, 4, 0), 3);
        due("rest by less than 0", worth(x, "s%d", 7, -4, 0), 3);
        due("by 0", worth(x, "5+s/0+s%0", 9, 0, 0), 5);
        due("least by -1", worth(x, "(s/d<0)*10+(s%d=0)", LEAST, -1, 0), 11);
        due("wraps", worth(x, "s+1=d", GREATEST, LEAST, 0), 1);
        due("wraps", worth(x, "s*s=0-0", 65536, 0, 0), 1);
        due("wraps", worth(x, "(0-s-1)%100", LEAST, 0, 0), 47);
        due("true is 1", worth(x, "7|0", 0, 0, 0), 1);
        due("true is 1", worth(x, "7&9", 0, 0, 0), 1);
        due("true is 1", worth(x, "!0", 0, 0, 0), 1);
        due("not true is 0", worth(x, "!7", 0, 0, 0), 0);
        due("not less", worth(x, "s<d", 4, 4, 0), 0);
        due("less", worth(x, "s<d", -4, 4, 0), 1);
        due("more", worth(x, "s>d", 5, 4, 0), 1);
        due("like", worth(x, "s=d", 5, 5, 0), 1);
        due("& ahead of |", worth(x, "1|0&0", 0, 0, 0), 1);
        due("< ahead of &", worth(x, "2&1<3", 0, 0, 0), 1);
        due("! ahead of *", worth(x, "!s*5", 0, 0, 0), 5);
        due("less than 0 is true", worth(x, "!s+1", -1, 0, 0), 1);
        due("NAMES in order", worth(x, "s*5+d*3+t", 1, 2, 3), 14);
        due("held at 99", worth(x, "s", 100, 0, 0), 99);
        due("held at 0", worth(x, "s", -1, 0, 0), 0);
        written(x, 1, "l*5+b*3+h");
        due("NAMES of LOST", x.law(1, 1, 2, 3), 14);
        due("SETTLES stays", x.law(0, 7, 0, 0), 7);
    }

    private static void promise17Minutes() {
        promise = 17;
        IndigoBoats x = new IndigoBoats();
        for (int v : new int[] {-1, 0, 61, LEAST, GREATEST}) {
            errs(x, "n " + v, BEYOND, () -> x.minutes(v));
        }
        // Two on CELL 0 (no deeper than 0): the lesser number dips first, then both go.
        x.boat(0, 0);
        x.boat(48, 0);
        x.cell(0, 1, 20);
        x.list(0, 2);
        due("minutes(1)", x.minutes(1), 16);
        due("BARREL 0", x.ofBoat(0, 3), 5);
        due("BARREL 1", x.ofBoat(1, 3), 11);
        due("STUFF of 0", x.ofCell(0, 1), 4);
        due("STUFF of 15", x.ofCell(15, 1), 5);
        due("CELL of 0", x.ofBoat(0, 2), 1);
        due("CELL of 1", x.ofBoat(1, 2), 1);
        // CELL 1 has 2 now, all of which BOAT 0 dips.
        due("minutes(1)", x.minutes(1), 18);
        due("BARREL 0", x.ofBoat(0, 3), 7);
        due("BARREL 1", x.ofBoat(1, 3), 11);
        due("MINUTE", x.count(1), 2);
        // Room in a BARREL is 99 at the most.
        x.cell(1, 1, 90);
        x.change(0, 1, 98);
        x.change(1, 1, 99);
        due("minutes(1)", x.minutes(1), 198);
        due("STUFF of 1", x.ofCell(1, 1), 90);
        // In the light 7 go, and KINDS leak: BOAT 1, WHERRY with m 8 4.
        x.dark(1);
        x.cell(1, 1, 7);
        x.cell(2, 1, 6);
        x.cell(3, 1, 99);
        due("minutes(1)", x.minutes(1), 193);
        due("STUFF of 1", x.ofCell(1, 1), 0);
        due("STUFF of 2", x.ofCell(2, 1), 0);
        due("STUFF of 3", x.ofCell(3, 1), 92);
        // BARRELS hold 0 at least; the TEXTS are asked.
        written(x, 1, "b/2+90*h*(b<90)");
        x.change(0, 1, 89);
        x.change(1, 1, 98);
        due("minutes(1)", x.minutes(1), 49);
        written(x, 0, "d+t");
        x.dark(20);
        x.cell(3, 1, 90);
        x.minutes(1);
        due("STUFF of 3 by a TEXT in MINUTE 5", x.ofCell(3, 1), 98);
        x.minutes(1);
        due("STUFF of 3 is 99 at the most", x.ofCell(3, 1), 99);
        borders();
    }

    /** From each CELL by each WAY, one step; at the border it stays. */
    private static void borders() {
        IndigoBoats x = new IndigoBoats();
        x.boat(0, 0);
        for (int way = 0; way < 5; way++) {
            for (int i = 0; i < 6; i++) {
                x.list(i, way);
            }
            for (int cell = 0; cell < 16; cell++) {
                int y = cell / 4 + (way == 1 ? -1 : way == 3 ? 1 : 0);
                int c = cell % 4 + (way == 2 ? 1 : way == 4 ? -1 : 0);
                x.change(0, 0, cell);
                x.minutes(1);
                due("CELL " + cell + " by " + way, x.ofBoat(0, 2), y < 0 || y > 3 || c < 0 || c > 3 ? cell : 4 * y + c);
            }
        }
    }

    private static void promise17MinutesEnd() {
        promise = 17;
        IndigoBoats x = new IndigoBoats();
        x.boat(20, 4);
        x.list(3, 2);
        for (int i = 0; i < 166; i++) {
            x.minutes(60);
        }
        due("MINUTE", x.count(1), 9960);
        errs(x, "minutes(40)", STATE, () -> x.minutes(40));
        errs(x, "minutes(61)", BEYOND, () -> x.minutes(61));
        promise = 18;
        errs(x, "loose(40)", STATE, () -> x.loose(40));
        errs(x, "loose(41)", BEYOND, () -> x.loose(41));
        promise = 17;
        x.minutes(39);
        due("MINUTE", x.count(1), 9999);
        errs(x, "minutes(1)", STATE, () -> x.minutes(1));
        errs(x, "minutes(60)", STATE, () -> x.minutes(60));
        promise = 18;
        errs(x, "loose(1)", STATE, () -> x.loose(1));
        promise = 19;
        x.change(0, 1, 0);
        x.change(0, 0, 4);
        x.cell(4, 1, 99);
        x.cell(5, 1, 0);
        due("it is light", x.count(5), 1);
        due("thought beyond 9999: a third of 92", x.then(1, 0), 30);
        due("MINUTE 10000 is dark again: a third of 66", x.then(2, 0), 52);
        due("MINUTE", x.count(1), 9999);
    }

    private static void promise18Loose() {
        promise = 18;
        IndigoBoats x = new IndigoBoats();
        for (int v : new int[] {-1, 0, 41, LEAST, GREATEST}) {
            errs(x, "n " + v, BEYOND, () -> x.loose(v));
        }
        int z = 77;
        x.seed(z);
        x.dark(20);
        for (int i = 0; i < 16; i++) {
            x.cell(i, 0, 0);
            x.cell(i, 1, 50);
        }
        x.boat(0, 0);
        due("loose(2)", x.loose(2) >= 0 ? 1 : 0, 1);
        int gone = 0;
        int[] ways = new int[2];
        for (int i = 0; i < 2; i++) {
            z = z * 1103515245 + 12345;
            ways[i] = (z >>> 8) % 5;
            z = z * 1103515245 + 12345;
            gone |= 1 << (z >>> 8) % 16;
        }
        due("z", x.count(10), z);
        due("place 0", x.ofList(0), ways[0]);
        due("place 1", x.ofList(1), ways[1]);
        due("place 2", x.ofList(2), 0);
        for (int i = 1; i < 16; i++) {
            due("a CELL without STUFF", x.ofCell(i, 1) == 0 ? 1 : 0, gone >> i & 1);
        }
        due("MINUTE", x.count(1), 2);
        due("as minutes by hand", x.count(2), x.ofBoat(0, 3));
        x.loose(40);
        due("MINUTE", x.count(1), 42);
    }

    private static IndigoBoats threeThatGo() {
        IndigoBoats x = three();
        x.list(1, 3);
        x.list(2, 2);
        return x;
    }

    /** What is thought is what comes, MINUTE by MINUTE. */
    private static void promises19And20Come() {
        promise = 19;
        IndigoBoats thinks = threeThatGo();
        IndigoBoats goes = threeThatGo();
        for (int n = 0; n <= 60; n++) {
            due("HAD behind " + n, thinks.then(n, 0), goes.count(2));
            due("STUFF behind " + n, thinks.then(n, 1), goes.count(3));
            goes.minutes(1);
        }
        due("only thought", seen(thinks).equals(seen(threeThatGo())) ? 1 : 0, 1);
        promise = 20;
        thinks = threeThatGo();
        goes = threeThatGo();
        for (int n = 0; n <= 60; n++) {
            for (int b = 0; b < 3; b++) {
                due("CELL behind " + n, thinks.on(b, n, 0), goes.ofBoat(b, 2));
                due("BARREL behind " + n, thinks.on(b, n, 1), goes.ofBoat(b, 3));
            }
            goes.minutes(1);
        }
        due("only thought", thinks.count(1) + thinks.count(2), 0);
    }

    private static void promise21Comes() {
        promise = 21;
        for (int b = 0; b < 3; b++) {
            IndigoBoats goes = threeThatGo();
            int[] first = new int[100];
            java.util.Arrays.fill(first, NONE);
            for (int n = 0; n <= 60; n++) {
                for (int v = goes.ofBoat(b, 3); v >= 0; v--) {
                    first[v] = first[v] == NONE ? n : first[v];
                }
                goes.minutes(1);
            }
            IndigoBoats thinks = threeThatGo();
            for (int v = 0; v < 100; v++) {
                due("full(" + b + ", " + v + ")", thinks.full(b, v), first[v]);
            }
        }
    }

    private static void promises19To21Ahead() {
        promises19And20Come();
        promise21Comes();
        IndigoBoats x = three();
        promise = 21;
        IndigoBoats z = three();
        z.dark(1);
        errs(z, "not by 60", NONE, () -> z.full(2, 99));
        due("full(2, 0)", z.full(2, 0), 0);
        for (int v : new int[] {-1, LEAST, GREATEST}) {
            promise = 19;
            errs(x, "n " + v, BEYOND, () -> x.then(v, 0));
            errs(x, "what " + v, BEYOND, () -> x.then(0, v));
            promise = 20;
            errs(x, "BOAT " + v, BEYOND, () -> x.on(v, 0, 0));
            errs(x, "n " + v, BEYOND, () -> x.on(0, v, 0));
            errs(x, "what " + v, BEYOND, () -> x.on(0, 0, v));
            promise = 21;
            errs(x, "BOAT " + v, BEYOND, () -> x.full(v, 0));
            errs(x, "v " + v, BEYOND, () -> x.full(0, v));
        }
        promise = 19;
        errs(x, "n 61", BEYOND, () -> x.then(61, 0));
        errs(x, "what 2", BEYOND, () -> x.then(0, 2));
        promise = 20;
        errs(x, "BOAT 3", BEYOND, () -> x.on(3, 0, 0));
        errs(x, "n 61", BEYOND, () -> x.on(0, 61, 0));
        errs(x, "what 2", BEYOND, () -> x.on(0, 0, 2));
        promise = 21;
        errs(x, "BOAT 3", BEYOND, () -> x.full(3, 0));
        errs(x, "v 100", BEYOND, () -> x.full(0, 100));
    }

    /** A BOAT that has 1 more in each dark MINUTE, and loses nothing. */
    private static IndigoBoats oneByOne() {
        IndigoBoats x = new IndigoBoats();
        written(x, 0, "1");
        written(x, 1, "0");
        x.boat(0, 10);
        return x;
    }

    private static void edgesOfThought() {
        IndigoBoats x = oneByOne();
        x.dark(20);
        promise = 21;
        due("full by 59", x.full(0, 59), 59);
        due("full by 60", x.full(0, 60), 60);
        errs(x, "full by 61", NONE, () -> x.full(0, 61));
        promise = 26;
        for (int v = 1; v <= 20; v++) {
            due("DARK " + v, x.darkFor(20, v), v);
        }
        errs(x, "DARK 21", NONE, () -> x.darkFor(20, 21));
        due("DARK 60", x.darkFor(60, 60), 20);
        promise = 31;
        due("1 of 20", x.odds(20, 20, 0), 1);
        due("1 of 20", x.odds(20, 20, 1), 20);
        due("0 of 20", x.odds(20, 21, 0), 0);
        due("10 of 20", x.odds(20, 11, 1), 2);
    }

    private static void promises22To24Best() {
        IndigoBoats x = new IndigoBoats();
        for (int i = 0; i < 16; i++) {
            x.cell(i, 0, 0);
        }
        x.boat(0, 5);
        x.cell(6, 1, 5);
        x.cell(9, 1, 5);
        promise = 22;
        due("of several the least", x.wayFor(0, 2), 2);
        due("nothing to be had yet", x.wayFor(0, 1), 0);
        due("a place that does not come", x.wayFor(3, 2), 0);
        x.cell(9, 1, 6);
        x.cell(6, 1, 4);
        due("the most", x.wayFor(0, 2), 3);
        x.list(0, 3);
        x.list(2, 1);
        due("as it is, but for one place", x.wayFor(2, 4), 0);
        promise = 23;
        x.list(0, 0);
        x.list(2, 0);
        due("n 0", x.cellFor(0, 0), 0);
        due("the most", x.cellFor(0, 1), 9);
        x.cell(6, 1, 5);
        x.cell(9, 1, 5);
        due("of several the least", x.cellFor(0, 1), 6);
        promise = 24;
        x.change(0, 0, 15);
        x.cell(15, 1, 60);
        x.become(0, 9);
        due("a third of 60, RAFT and PUNT", x.kindFor(0, 1), 2);
        x.become(0, 8);
        due("a third of 60, and 2", x.kindFor(0, 1), 5);
        x.cell(15, 1, 24);
        due("WHERRY with m 8", x.kindFor(0, 1), 4);
        due("n 0", x.kindFor(0, 0), 0);
        due("it stays what it is", x.ofBoat(0, 0), 0);
        for (int v : new int[] {-1, 61, LEAST, GREATEST}) {
            promise = 22;
            errs(x, "place " + v, BEYOND, () -> x.wayFor(v == 61 ? 6 : v, 0));
            errs(x, "n " + v, BEYOND, () -> x.wayFor(0, v));
            promise = 23;
            errs(x, "BOAT " + v, BEYOND, () -> x.cellFor(v == 61 ? 1 : v, 0));
            errs(x, "n " + v, BEYOND, () -> x.cellFor(0, v));
            promise = 24;
            errs(x, "BOAT " + v, BEYOND, () -> x.kindFor(v == 61 ? 1 : v, 0));
            errs(x, "n " + v, BEYOND, () -> x.kindFor(0, v));
        }
    }

    private static void promise25Route() {
        promise = 25;
        IndigoBoats x = new IndigoBoats();
        for (int i = 0; i < 16; i++) {
            x.cell(i, 0, 0);
        }
        x.boat(30, 5);
        x.boat(0, 15);
        x.list(0, 1);
        x.list(1, 1);
        x.list(2, 1);
        x.cell(6, 1, 5);
        x.cell(7, 1, 5);
        x.cell(11, 1, 5);
        due("0 ways", x.route(0, 0, 0), 1);
        due("0 ways", x.route(0, 0, 1), 0);
        due("1 way", x.route(0, 1, 0), 10);
        due("2 ways", x.route(0, 2, 0), 120);
        due("2 ways, the other goes on", x.route(0, 2, 1), 10);
        due("3 ways: the other dips on 11 and 7, so 6 does, late", x.route(0, 3, 0), 1020);
        due("4 ways, likewise", x.route(0, 4, 0), 10020);
        due("4 ways", x.route(0, 4, 1), 15);
        x.cell(11, 1, 10);
        due("4 ways", x.route(0, 4, 0), 12230);
        due("4 ways", x.route(0, 4, 1), 20);
        due("only thought", x.ofBoat(0, 2) + x.count(1) + x.count(2), 5);
        for (int v : new int[] {-1, 5, LEAST, GREATEST}) {
            errs(x, "BOAT " + v, BEYOND, () -> x.route(v == 5 ? 2 : v, 0, 0));
            errs(x, "n " + v, BEYOND, () -> x.route(0, v, 0));
            errs(x, "what " + v, BEYOND, () -> x.route(0, 0, v == 5 ? 2 : v));
        }
    }

    private static void promise26DarkFor() {
        promise = 26;
        IndigoBoats x = new IndigoBoats();
        x.boat(0, 5);
        due("v 0", x.darkFor(60, 0), 1);
        due("5 in each dark MINUTE", x.darkFor(3, 5), 2);
        due("5 in each dark MINUTE", x.darkFor(3, 15), 3);
        errs(x, "with none", NONE, () -> x.darkFor(3, 16));
        errs(x, "with none", NONE, () -> x.darkFor(60, 792));
        due("DARK stays", x.count(4), 14);
        for (int v : new int[] {-1, 61, LEAST, GREATEST}) {
            errs(x, "n " + v, BEYOND, () -> x.darkFor(v, 0));
            errs(x, "v " + v, BEYOND, () -> x.darkFor(0, v == 61 ? 793 : v));
        }
    }

    private static void promise27Match() {
        promise = 27;
        IndigoBoats x = new IndigoBoats();
        for (int i = -1; i < 6; i++) {
            due("no BOATS", x.match(i), i < 0 ? 0 : 8);
        }
        for (int v : new int[] {-2, 6, LEAST, GREATEST}) {
            errs(x, "what " + v, BEYOND, () -> x.match(v));
        }
        int[] barrels = {10, 20, 5, 0};
        for (int i = 0; i < barrels.length; i++) {
            x.boat(0, i);
            x.change(i, 1, barrels[i]);
        }
        int[] wants = {8, 30, 10, 3, 20, 0};
        for (int i = 0; i < wants.length; i++) {
            x.wants(i, wants[i]);
        }
        // 20 + 10 + 5: WEARER 1 or 4 takes 20, 2 (or 1, 4) takes 10, 0 takes 5: 35 in all
        int[] row = {2, 0, 3, 8, 1, 8};
        due("served", x.match(-1), 35);
        for (int i = 0; i < 6; i++) {
            due("BOAT of WEARER " + i, x.match(i), row[i]);
        }
        for (int i = 0; i < 6; i++) {
            x.wants(i, 0);
        }
        int[] none = {0, 1, 2, 3, 8, 8};
        for (int i = 0; i < 6; i++) {
            due("where nothing is served", x.match(i), none[i]);
        }
        due("served", x.match(-1), 0);
    }

    private static void promise28Blend() {
        promise = 28;
        IndigoBoats x = new IndigoBoats();
        errs(x, "no BOATS", NONE, () -> x.blend(0));
        x.boat(0, 0);
        errs(x, "one BOAT", NONE, () -> x.blend(0));
        errs(x, "one BOAT, v 199", BEYOND, () -> x.blend(199));
        x.boat(0, 0);
        x.boat(0, 0);
        x.boat(0, 0);
        x.change(0, 1, 10);
        x.change(1, 1, 20);
        x.change(2, 1, 32);
        x.change(3, 1, 99);
        due("30", x.blend(30), 1);
        due("41", x.blend(41), 2);
        due("36, as far from 30 as from 42", x.blend(36), 1);
        due("0", x.blend(0), 1);
        due("50", x.blend(50), 12);
        due("198", x.blend(198), 23);
        errs(x, "v -1", BEYOND, () -> x.blend(-1));
        errs(x, "v 199", BEYOND, () -> x.blend(199));
        errs(x, "v least", BEYOND, () -> x.blend(LEAST));
    }

    private static void promise29Which() {
        promise = 29;
        IndigoBoats x = new IndigoBoats();
        x.boat(1, 5);
        x.boat(0, 6);
        x.cell(5, 1, 7);
        x.cell(6, 1, 0);
        errs(x, "missing", NONE, () -> x.which(0, 0));
        errs(x, "missing, and no BOAT", BEYOND, () -> x.which(0, 2));
        x.sheet(0, 8, 0);
        due("no numbers", x.which(0, 0), 127);
        // In the first MINUTE 12 lie on CELL 5: BOAT, SIME, GHOST dip 5, SKIFF 3, PUNT 4, WHERRY 4, RAFT 5.
        sheetOf(x, 0, 8, 10);
        due("10", x.which(0, 0), 1 + 8 + 32 + 64);
        sheetOf(x, 0, 8, 8);
        due("8", x.which(0, 0), 2);
        sheetOf(x, 0, 8, 9);
        due("9", x.which(0, 0), 4 + 16);
        sheetOf(x, 0, 8, 9, 19);
        // Then 13 lie there: PUNT dips 4, WHERRY 4; 5 come by the other.
        due("9, 19", x.which(0, 0), 0);
        sheetOf(x, 0, 8, 9, 18);
        due("9, 18", x.which(0, 0), 4 + 16);
        for (int v : new int[] {-1, 4, LEAST, GREATEST}) {
            errs(x, "SHEET " + v, BEYOND, () -> x.which(v, 0));
            errs(x, "BOAT " + v, BEYOND, () -> x.which(0, v == 4 ? 2 : v));
        }
    }

    private static void promise30Lay() {
        promise = 30;
        IndigoBoats x = new IndigoBoats();
        x.boat(20, 5);
        errs(x, "missing", NONE, () -> x.lay(0, 0, 0));
        errs(x, "missing, and what 2", BEYOND, () -> x.lay(0, 0, 2));
        errs(x, "missing, and no CELL", BEYOND, () -> x.lay(0, 16, 0));
        x.sheet(0, 8, 0);
        due("how many", x.lay(0, 5, 0), 100);
        due("the least", x.lay(0, 5, 1), 0);
        // A PUNT dips a third of STUFF and 5: 10 of 30, 31, 32.
        sheetOf(x, 0, 8, 10);
        due("how many", x.lay(0, 5, 0), 3);
        due("the least", x.lay(0, 5, 1), 25);
        due("elsewhere", x.lay(0, 6, 0), 0);
        errs(x, "none", NONE, () -> x.lay(0, 6, 1));
        // Then of 25, 26, 27: 8, 8, 9.
        sheetOf(x, 0, 8, 10, 18);
        due("how many", x.lay(0, 5, 0), 2);
        sheetOf(x, 0, 8, 10, 19);
        due("the least", x.lay(0, 5, 1), 27);
        // 94 and more are 99 with what settles.
        sheetOf(x, 0, 8, 33);
        due("how many", x.lay(0, 5, 0), 6);
        sheetOf(x, 0, 8, 1);
        due("elsewhere: 5 settle where it is", x.lay(0, 0, 0), 100);
        for (int v : new int[] {-1, 4, LEAST, GREATEST}) {
            errs(x, "SHEET " + v, BEYOND, () -> x.lay(v, 0, 0));
            errs(x, "CELL " + v, BEYOND, () -> x.lay(0, v == 4 ? 16 : v, 0));
            errs(x, "what " + v, BEYOND, () -> x.lay(0, 0, v == 4 ? 2 : v));
        }
    }

    private static void promise31Odds() {
        promise = 31;
        IndigoBoats x = new IndigoBoats();
        x.boat(0, 5);
        due("always", x.odds(0, 0, 0), 1);
        due("always", x.odds(0, 0, 1), 1);
        due("never", x.odds(30, 792, 0), 0);
        due("never", x.odds(30, 792, 1), 1);
        // 15 behind 3 with DARK 3 .. 20; 5 behind 3 with 2 .. 20; 20 behind 4 with 4 .. 20
        due("18 of 20", x.odds(3, 15, 0), 9);
        due("18 of 20", x.odds(3, 15, 1), 10);
        due("19 of 20", x.odds(3, 5, 0), 19);
        due("19 of 20", x.odds(3, 5, 1), 20);
        due("16 of 20", x.odds(5, 25, 0), 4);
        due("16 of 20", x.odds(5, 25, 1), 5);
        for (int v : new int[] {-1, 31, LEAST, GREATEST}) {
            errs(x, "n " + v, BEYOND, () -> x.odds(v, 0, 0));
            errs(x, "v " + v, BEYOND, () -> x.odds(0, v == 31 ? 793 : v, 0));
            errs(x, "part " + v, BEYOND, () -> x.odds(0, 0, v == 31 ? 2 : v));
        }
    }

    private static void promise32Seed() {
        promise = 32;
        IndigoBoats x = new IndigoBoats();
        due("seed", x.seed(LEAST), 1);
        due("seed", x.seed(BEYOND), LEAST);
        due("seed", x.seed(5), BEYOND);
        due("count(10)", x.count(10), 5);
        due("no ERROR", x.told(1), 0);
    }

    private static void promises33And34Voices() {
        promise = 33;
        IndigoBoats x = new IndigoBoats();
        x.boat(0, 0);
        x.boat(0, 0);
        x.boat(0, 0);
        // KIND, act, m, x, what is due, THE TRACE: of BOAT 2
        int[][] rows = {
            {0, 0, 4, 5, 7, 10},
            {0, 1, 4, 5, 14, 11, 10},
            {0, 2, 4, 5, 1, 12},
            {0, 3, 4, 5, 14 ^ 1, 13, 11, 10, 12},
            {1, 0, 4, 5, 21, 20, 10},
            {1, 3, 4, 5, 42 ^ 1, 13, 11, 20, 10, 12},
            {2, 1, 4, 5, 14 + 3, 30, 11, 10, 12},
            {3, 2, 4, 5, -1, 40, 12},
            {3, 3, 4, 5, 14 ^ -1, 13, 11, 10, 40, 12},
            {4, 3, 4, 5, (42 ^ 1) - 12, 50, 13, 11, 20, 10, 12, 20, 10},
            {5, 1, 4, 5, 16 + 3, 60, 30, 11, 10, 12},
            {5, 3, 4, 5, 19 ^ 1, 13, 60, 30, 11, 10, 12, 12},
            {6, 2, 4, 5, -1 ^ 2, 70, 40, 12},
            {6, 3, 4, 5, 14 - (14 ^ (-1 ^ 2)), 71, 11, 10, 13, 11, 10, 70, 40, 12},
            {1, 0, 0, GREATEST, (GREATEST + 2) * 3, 20, 10},
            {0, 2, 9, LEAST, LEAST - 9, 12},
        };
        for (int[] row : rows) {
            promise = 33;
            x.become(2, 10 * row[0] + row[2]);
            due("KIND " + row[0] + " act " + row[1], x.voice(2, row[1], row[3]), row[4]);
            promise = 34;
            due("BODIES", x.count(9), row.length - 5);
            for (int i = 5; i < row.length; i++) {
                due("THE TRACE of KIND " + row[0] + " act " + row[1], x.trace(i - 5), row[i]);
            }
            int n = row.length - 5;
            errs(x, "behind the last", NONE, () -> x.trace(n));
        }
        x.become(0, 0);
        due("below LOW", x.voice(0, 0, NONE), NONE);
        for (int v : new int[] {-1, 3, LEAST, GREATEST}) {
            promise = 33;
            errs(x, "BOAT " + v, BEYOND, () -> x.voice(v, 0, 0));
            errs(x, "act " + v, BEYOND, () -> x.voice(0, v == 3 ? 4 : v, 0));
            promise = 34;
            errs(x, "trace " + v, NONE, () -> x.trace(v));
        }
    }

    private static void promises35And36Sheets() {
        IndigoBoats x = new IndigoBoats();
        promise = 35;
        for (int v : new int[] {-1, 4, LEAST, GREATEST}) {
            errs(x, "SHEET " + v, BEYOND, () -> x.sheet(v, 8, 0));
            errs(x, "SHEET " + v + ", n -1", BEYOND, () -> x.sheet(v, 8, -1));
            errs(x, "bits " + v, BEYOND, () -> x.sheet(0, v, 0));
            errs(x, "bits " + v + ", n -1", BEYOND, () -> x.sheet(0, v, -1));
        }
        errs(x, "n -1", STATE, () -> x.sheet(0, 8, -1));
        errs(x, "n least", STATE, () -> x.sheet(0, 32, LEAST));
        errs(x, "n 41", BEYOND, () -> x.sheet(0, 8, 41));
        errs(x, "n greatest", BEYOND, () -> x.sheet(0, 16, GREATEST));
        due("still missing", x.lies(0), NONE);
        due("n 40", x.sheet(0, 32, 40), 1);
        due("n 0", x.sheet(3, 16, 0), 1);
        x.cell(15, 1, 4);
        due("all 0", x.lies(0), 16);
        due("all 0", x.ofCell(15, 1), 0);
        x.put(0, 0, 7);
        due("anew", x.sheet(0, 8, 1), 1);
        due("all 0", x.lies(0), 1);
        due("all 0", x.ofCell(0, 1), 0);
        due("missing again, whatever n", x.sheet(0, 0, -5), 1);
        due("missing again", x.lies(0), NONE);
        due("missing already", x.sheet(0, 0, 99), 1);
        promise = 36;
        for (int v : new int[] {-1, 4, LEAST, GREATEST}) {
            errs(x, "SHEET " + v, BEYOND, () -> x.put(v, 0, 0));
        }
        errs(x, "missing", NONE, () -> x.put(0, 0, 0));
        errs(x, "missing, no such number", NONE, () -> x.put(0, -1, 0));
        errs(x, "no numbers", BEYOND, () -> x.put(3, 0, 0));
        x.sheet(1, 8, 3);
        errs(x, "number 3", BEYOND, () -> x.put(1, 3, 0));
        errs(x, "number -1", BEYOND, () -> x.put(1, -1, 0));
        bits(x, 8, 0x7fffff33, 0x33);
        bits(x, 8, 0x180, -128);
        bits(x, 8, -1, -1);
        bits(x, 8, 0x105, 5);
        bits(x, 16, 0x10005, 5);
        bits(x, 16, 0x105, 0x105);
        bits(x, 32, 0x10005, 0x10005);
        bits(x, 16, 0x7fff8001, -32767);
        bits(x, 16, 0x17fff, 32767);
        bits(x, 32, LEAST, LEAST);
        bits(x, 32, GREATEST, GREATEST);
    }

    /** What a SHEET of so many bits holds of v, as lies() shows it. */
    private static void bits(IndigoBoats x, int bits, int v, int held) {
        x.sheet(2, bits, 1);
        due("put " + v, x.put(2, 0, v), 1);
        int lies = held >= 0 && held <= 99 ? 1 : 0;
        due("lies of " + held, x.lies(2), lies);
        if (lies == 1) {
            due("STUFF", x.ofCell(0, 1), held);
        }
    }

    private static void promise37Move() {
        promise = 37;
        IndigoBoats x = new IndigoBoats();
        sheetOf(x, 0, 16, 1, 2, 3, 4, 5);
        sheetOf(x, 1, 16, 11, 12, 13);
        sheetOf(x, 2, 8, 21);
        for (int v : new int[] {-1, 4, LEAST, GREATEST}) {
            errs(x, "SHEET " + v, BEYOND, () -> x.move(v, 0, 0, 0, 0));
            errs(x, "other " + v, BEYOND, () -> x.move(0, 0, v, 0, 0));
            errs(x, "missing, and no other", BEYOND, () -> x.move(3, 0, v, 0, 0));
        }
        errs(x, "missing", NONE, () -> x.move(3, 0, 0, 0, -1));
        errs(x, "other missing", NONE, () -> x.move(0, 0, 3, 0, -1));
        errs(x, "both missing", NONE, () -> x.move(3, 0, 3, 0, 0));
        errs(x, "unlike bits", KIND, () -> x.move(0, 0, 2, 0, 1));
        errs(x, "unlike bits, n -1", KIND, () -> x.move(0, 0, 2, 0, -1));
        int[][] off = {{0, 0, -1}, {-1, 0, 1}, {0, -1, 1}, {-1, 0, 0}, {3, 0, 3}, {0, 1, 3}, {5, 0, 1}, {0, 3, 1}, {6, 0, 0},
            {0, 4, 0}, {GREATEST, 0, 1}, {0, GREATEST, 1}, {1, 0, GREATEST}, {GREATEST, GREATEST, GREATEST}, {LEAST, 0, 0},
            {0, LEAST, 0}, {0, 0, LEAST}};
        for (int[] o : off) {
            errs(x, "move from " + o[0] + " to " + o[1] + ", " + o[2], BEYOND, () -> x.move(0, o[0], 1, o[1], o[2]));
        }
        lying(x, 0, 1, 2, 3, 4, 5);
        due("none, at the ends", x.move(0, 5, 1, 3, 0), 0);
        due("two", x.move(0, 3, 1, 1, 2), 2);
        lying(x, 1, 11, 4, 5);
        lying(x, 0, 1, 2, 3, 4, 5);
        due("within, forward", x.move(0, 0, 0, 1, 4), 4);
        lying(x, 0, 1, 1, 2, 3, 4);
        due("within, backward", x.move(0, 1, 0, 0, 4), 4);
        lying(x, 0, 1, 2, 3, 4, 4);
    }

    private static void lying(IndigoBoats x, int sheet, int... numbers) {
        due("lies", x.lies(sheet), numbers.length);
        for (int i = 0; i < numbers.length; i++) {
            due("STUFF of " + i, x.ofCell(i, 1), numbers[i]);
        }
    }

    private static void promise38Lies() {
        promise = 38;
        IndigoBoats x = new IndigoBoats();
        for (int v : new int[] {-1, 4, LEAST, GREATEST}) {
            errs(x, "SHEET " + v, BEYOND, () -> x.lies(v));
        }
        errs(x, "missing", NONE, () -> x.lies(0));
        sheetOf(x, 0, 32, 0, 99, 5, 100, 7);
        x.cell(3, 1, 44);
        x.cell(4, 1, 45);
        due("up to 100", x.lies(0), 3);
        due("STUFF of 1", x.ofCell(1, 1), 99);
        due("STUFF of 2", x.ofCell(2, 1), 5);
        due("STUFF of 3 stays", x.ofCell(3, 1), 44);
        due("STUFF of 4 stays", x.ofCell(4, 1), 45);
        sheetOf(x, 0, 8, -1, 5);
        due("-1 first", x.lies(0), 0);
        x.sheet(0, 8, 0);
        due("no numbers", x.lies(0), 0);
        x.sheet(0, 8, 17);
        x.put(0, 15, 15);
        due("CELLS end", x.lies(0), 16);
        due("STUFF of 15", x.ofCell(15, 1), 15);
    }

    private static void promise39Judge() {
        promise = 39;
        IndigoBoats x = new IndigoBoats();
        for (int v : new int[] {-1, 4, LEAST, GREATEST}) {
            errs(x, "SHEET " + v, BEYOND, () -> x.judge(v));
        }
        errs(x, "missing", NONE, () -> x.judge(0));
        x.sheet(0, 8, 0);
        due("no numbers, no BOATS", x.judge(0), -1);
        x.sheet(0, 8, 1);
        due("one too many", x.judge(0), 0);
        x.boat(0, 0);
        due("all are", x.judge(0), -1);
        x.boat(0, 0);
        due("one lacks", x.judge(0), 1);
        x.change(0, 1, 7);
        x.change(1, 1, 8);
        sheetOf(x, 0, 32, 7, 8);
        due("all are", x.judge(0), -1);
        sheetOf(x, 0, 32, 7, 9);
        due("the second", x.judge(0), 1);
        sheetOf(x, 0, 32, 6, 8, 1);
        due("the first", x.judge(0), 0);
        sheetOf(x, 0, 32, 7, 8, 0);
        due("one too many", x.judge(0), 2);
        x.sheet(0, 32, 0);
        due("all lack", x.judge(0), 0);
    }

    private static void promises40And41Images() {
        promise = 41;
        IndigoBoats x = three();
        errs(x, "no IMAGE", NONE, () -> x.restore());
        promise = 40;
        x.cell(3, 0, 8);
        x.list(4, 4);
        x.dark(9);
        x.wants(2, 77);
        written(x, 0, "s/2+1");
        written(x, 1, "l+h");
        feedAll(x, "s+");
        x.tell(5);
        x.tell(6);
        x.seed(99);
        x.minutes(7);
        x.voice(0, 3, 1);
        String kept = seen(x);
        due("image()", x.image(), 1);
        due("nothing changes", seen(x).equals(kept) ? 1 : 0, 1);
        promise = 41;
        stir(x);
        sheetOf(x, 0, 8, 42);
        due("restore()", x.restore(), 7);
        x.voice(0, 3, 1);
        due("all is as it was", seen(x).equals(kept) ? 1 : 0, 1);
        due("SHEETS are not", x.lies(0), 1);
        due("SHEETS are not", x.ofCell(0, 1), 42);
        due("told is not", x.told(2), 1);
        x.voice(0, 0, 1);
        due("restore() again", x.restore(), 7);
        due("THE TRACE is not", x.count(9), 1);
        due("a TEXT goes on from THE TAPE", written(x, 0, "0"), 1);
        due("its law", x.law(0, 12, 0, 0), 12);
        due("check() of those kept", x.check() >= 0 ? x.count(8) : -1, 0);
        promise40ImageAgain();
        promise = 41;
        IndigoBoats y = new IndigoBoats();
        y.image();
        y.boat(0, 0);
        written(y, 0, "50");
        written(y, 1, "50");
        due("restore()", y.restore(), 0);
        due("no BOATS", y.count(0), 0);
        due("no TEXT of SETTLES", y.law(0, 1, 2, 3), 2);
        due("no TEXT of LOST", y.law(1, 1, 2, 3), 1);
        due("a BOAT anew", y.boat(0, 0), 0);
        due("its BARREL", y.ofBoat(0, 3), 0);
    }

    private static void promise40ImageAgain() {
        promise = 40;
        IndigoBoats x = three();
        due("image()", x.image(), 1);
        stir(x);
        due("image()", x.image(), 2);
        String later = seen(x);
        stir(x);
        due("restore()", x.restore(), x.count(1));
        due("in place of the one ahead", seen(x).equals(later) ? 1 : 0, 1);
        due("image()", x.image(), 3);
    }

    private static void stir(IndigoBoats x) {
        x.boat(55, 1);
        x.change(0, 0, 12);
        x.change(1, 1, 55);
        x.become(2, 21);
        x.cell(3, 0, 1);
        x.cell(4, 1, 98);
        x.list(4, 1);
        x.dark(3);
        x.wants(2, 1);
        written(x, 0, "s");
        written(x, 1, "b");
        feedAll(x, "99");
        x.check();
        x.tell(1);
        x.loose(3);
    }

    private static void promises42And43Tell() {
        IndigoBoats x = three();
        promise = 43;
        due("none wait", x.check(), 0);
        int[] had = new int[21];
        for (int i = 1; i <= 20; i++) {
            had[i] = x.then(i, 0);
        }
        promise = 42;
        for (int i = 1; i <= 20; i++) {
            due("tell", x.tell(had[i]), i);
        }
        errs(x, "20 wait", FULL, () -> x.tell(0));
        due("count(8)", x.count(8), 20);
        promise = 43;
        due("all are so", x.check(), 0);
        due("none wait then", x.count(8), 0);
        due("only thought", x.count(1), 0);
        for (int off = 1; off <= 20; off++) {
            for (int i = 1; i <= 20; i++) {
                x.tell(had[i] + (i == off || i == off + 2 ? 1 : 0));
            }
            due("the first that isn't so", x.check(), off);
            due("none wait then", x.count(8), 0);
        }
        promise = 42;
        due("any number", x.tell(LEAST), 1);
    }

    private static void promises44And45Counts() {
        promise = 44;
        IndigoBoats x = three();
        x.minutes(1);
        x.wants(0, 3);
        feedAll(x, "abc");
        x.tell(4);
        x.voice(1, 3, 2);
        // 49 lay, 60 settled, BOAT dipped 5, WHERRY 10, GHOST 5.
        int[] counts = {3, 1, 20, 89, 14, 0, 53, 3, 1, 8, 1};
        for (int i = 0; i < counts.length; i++) {
            due("count(" + i + ")", x.count(i), counts[i]);
        }
        x.minutes(12);
        due("MINUTE 13 is dark", x.count(5), 0);
        x.minutes(1);
        due("MINUTE 14 is light", x.count(5), 1);
        for (int v : new int[] {-1, 11, LEAST, GREATEST}) {
            errs(x, "what " + v, BEYOND, () -> x.count(v));
        }
        promise = 45;
        for (int v : new int[] {0, 6, -1, LEAST, GREATEST}) {
            errs(x, "k " + v, BEYOND, () -> x.told(v));
        }
        IndigoBoats y = new IndigoBoats();
        y.ofList(9);
        y.blend(0);
        y.blend(0);
        y.sheet(0, 8, -1);
        y.sheet(0, 8, -1);
        y.sheet(0, 8, -1);
        for (int i = 0; i < 12; i++) {
            y.boat(0, 0);
        }
        for (int i = 0; i < 5; i++) {
            y.as(0, 6);
        }
        for (int k = 1; k <= 5; k++) {
            due("told(" + k + ")", y.told(k), k);
        }
        due("told(0)", y.told(0), BEYOND);
        due("told(1)", y.told(1), 2);
    }
}
