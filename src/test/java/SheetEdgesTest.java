/** The boundaries of promises 32 to 39: seeds, VOICES, THE TRACE, SHEETS. */
public final class SheetEdgesTest {
    private static final int BEYOND = Edge.BEYOND;
    private static final int NONE = Edge.NONE;
    private static final int STATE = Edge.STATE;
    private static final int KIND = Edge.KIND;
    private static final int MIN = Integer.MIN_VALUE;
    private static final int MAX = Integer.MAX_VALUE;

    public static void main(String[] args) {
        Edge.run(SheetEdgesTest.class, 32, 39);
    }

    /** The calls that make a SHEET of these numbers. */
    private static String[] sheetOf(int sheet, int bits, int... numbers) {
        String[] calls = {"sheet " + sheet + " " + bits + " " + numbers.length};
        for (int i = 0; i < numbers.length; i++) {
            calls = Edge.and(calls, "put " + sheet + " " + i + " " + numbers[i]);
        }
        return calls;
    }

    // ---- promise 32

    static void promise32AnyNumber() {
        new Edge().gives(1, "seed MIN").gives(MIN, "seed MIN", "seed MAX").gives(MAX, "seed MAX", "seed 0")
            .gives(0, "seed 0", "seed 1")
            .gives(MIN, "seed MIN", "count 10");
    }

    static void promise32ANumberLikeAnErrorIsNone() {
        new Edge().gives(BEYOND, "seed -1000000001", "seed 0").gives(0, "seed -1000000001", "seed 0", "told 1")
            .gives(KIND, "seed -1000000005", "seed 0").gives(0, "seed -1000000005", "seed 0", "told 5");
    }

    // ---- promise 33

    static void promise33OnlyBoatsThatThereAre() {
        new Edge(Edge.port()).within(0, 5, 3, 8, "voice # 0 5");
        new Edge(Edge.fleet()).within(0, 5, 7, 12, "voice # 0 5");
        new Edge().beyond(new int[] {-1, 0}, "voice # 0 5");
    }

    static void promise33Acts0To3() {
        new Edge(Edge.port()).within(0, 5, 3, 10 ^ 2, "voice 0 # 5").gives(10, "voice 0 1 5").gives(2, "voice 0 2 5");
    }

    static void promise33IntsOfABoatGoRound() {
        Edge boats = new Edge("boat 9 0", "boat 9 0");
        boats.gives(MAX, "voice 1 0 2147483646").gives(MIN, "voice 1 0 MAX").gives(2147483646, "voice 1 1 1073741822")
            .gives(MIN, "voice 1 1 1073741823").gives(MIN, "voice 0 2 -2147483639").gives(MAX, "voice 0 2 -2147483640")
            .gives(2147483639, "voice 0 2 MIN");
    }

    static void promise33IntsOfTheOthersGoRound() {
        Edge fresh = new Edge();
        fresh.gives(2147483646, "boat 10 0", "voice 0 0 715827882").gives(-2147483647, "boat 10 0", "voice 0 0 715827883")
            .gives(-2147483642, "boat 29 0", "voice 0 1 1073741823").gives(MAX, "boat 20 0", "voice 0 1 -1073741824")
            .gives(MIN, "boat 30 0", "voice 0 2 MIN").gives(MAX, "boat 30 0", "voice 0 2 -2147483647")
            .gives(2147483642, "boat 40 0", "voice 0 3 MIN").gives(-1, "boat 50 0", "voice 0 1 MAX")
            .gives(0, "boat 51 0", "voice 0 1 MAX")
            .gives(MIN, "boat 60 0", "voice 0 3 MIN").gives(MAX, "boat 60 0", "voice 0 3 MAX");
    }

    static void promise33TheNumbersOfTheFirstAndTheLastBoat() {
        Edge fleet = new Edge(Edge.and(Edge.fleet(), "become 7 60", "become 0 60"));
        fleet.gives(7, "voice 7 0 0").gives(14, "voice 7 1 0").gives(7, "voice 7 2 0").gives(6, "voice 7 2 -1")
            .gives(-8, "voice 7 2 1")
            .gives(0, "voice 0 2 0").gives(1, "voice 0 2 -1");
    }

    static void promise33ANumberLikeAnErrorIsNone() {
        new Edge("boat 0 0").gives(NONE, "voice 0 0 -1000000002").gives(0, "voice 0 0 -1000000002", "told 2");
    }

    static void promise33TheNextKindAboveThatHasOne() {
        // BOAT's, but for dips of SKIFF, WHERRY, lids of PUNT, RAFT, turns of SIME, GHOST, tells of WHERRY, GHOST
        int[] dips = {10, 20, 10, 10, 20, 10, 10};
        int[] lids = {11, 11, 30, 11, 11, 60, 11};
        int[] turns = {12, 12, 12, 40, 12, 12, 70};
        int[] tells = {13, 13, 13, 13, 50, 13, 71};
        for (int kind = 0; kind < 7; kind++) {
            new Edge("boat " + kind + "0 0").gives(dips[kind], "voice 0 0 1", "trace 0")
                .gives(lids[kind], "voice 0 1 1", "trace 0")
                .gives(turns[kind], "voice 0 2 1", "trace 0").gives(tells[kind], "voice 0 3 1", "trace 0");
        }
    }

    // ---- promise 34

    static void promise34FromTheFirstToTheLast() {
        Edge port = new Edge(Edge.port());
        port.keeps(13, "trace 0").keeps(11, "trace 1").keeps(10, "trace 2").keeps(12, "trace 3").refuses(NONE, "trace 4")
            .refuses(NONE, "trace -1").refuses(NONE, "trace MIN").refuses(NONE, "trace MAX");
    }

    static void promise34NoneAtFirst() {
        new Edge("boat 0 0").refuses(NONE, "trace 0").gives(10, "voice 0 0 0", "trace 0")
            .refuses(NONE, "voice 0 0 0", "trace 1");
    }

    static void promise34OfTheLatestAlone() {
        Edge ghost = new Edge("boat 60 0", "voice 0 3 1");
        int[] bodies = {71, 11, 10, 13, 11, 10, 70, 40, 12};
        for (int i = 0; i < bodies.length; i++) {
            ghost.gives(bodies[i], "trace " + i);
        }
        ghost.refuses(NONE, "trace 9").gives(9, "count 9").gives(1, "voice 0 0 1", "count 9")
            .refuses(NONE, "voice 0 0 1", "trace 1")
            .gives(10, "voice 0 0 1", "trace 0");
    }

    static void promise34WhatStandsLeftIsWorkedOutFirst() {
        int[] wherry = {50, 13, 11, 20, 10, 12, 20, 10};
        int[] raft = {13, 60, 30, 11, 10, 12, 12};
        for (int i = 0; i < wherry.length; i++) {
            new Edge("boat 40 0", "voice 0 3 1").gives(wherry[i], "trace " + i);
        }
        for (int i = 0; i < raft.length; i++) {
            new Edge("boat 50 0", "voice 0 3 1").gives(raft[i], "trace " + i);
        }
        new Edge("boat 40 0", "voice 0 3 1").refuses(NONE, "trace 8");
        new Edge("boat 50 0", "voice 0 3 1").refuses(NONE, "trace 7");
    }

    static void promise34ItStaysWhenAVoiceIsRefused() {
        new Edge(Edge.port()).gives(13, "voice 9 0 0", "trace 0").gives(4, "voice 0 4 0", "count 9")
            .gives(12, "voice -1 -1 0", "trace 3");
    }

    static void promise34NoneBehindThe40th() {
        new Edge("boat 60 0", "voice 0 3 1").refuses(NONE, "trace 39").refuses(NONE, "trace 40");
    }

    // ---- promise 35

    static void promise35Sheets0To3() {
        new Edge(Edge.port()).within(0, 1, 3, 1, "sheet # 8 1").within(0, 1, 3, 1, "sheet # 0 1");
    }

    static void promise35Bits() {
        Edge port = new Edge(Edge.port());
        port.gives(1, "sheet 0 8 1").gives(1, "sheet 0 16 1").gives(1, "sheet 0 32 1").gives(1, "sheet 0 0 1")
            .beyond(new int[] {-1, 1, 7, 9, 15, 17, 24, 31, 33, 64, -8}, "sheet 0 # 1");
    }

    static void promise35NoneToFortyNumbers() {
        Edge port = new Edge(Edge.port());
        for (int bits : new int[] {8, 16, 32}) {
            String sheet = "sheet 0 " + bits + " ";
            port.gives(1, sheet + 0).gives(1, sheet + 40).refuses(BEYOND, sheet + 41).refuses(BEYOND, sheet + "MAX")
                .gives(0, sheet + 0, "lies 0").refuses(BEYOND, sheet + 0, "put 0 0 5").gives(1, sheet + 40, "put 0 39 5")
                .refuses(BEYOND, sheet + 40, "put 0 40 5");
        }
    }

    static void promise35StateAheadOfBeyondOfN() {
        Edge port = new Edge(Edge.port());
        for (int bits : new int[] {8, 16, 32}) {
            port.refuses(STATE, "sheet 0 " + bits + " -1").refuses(STATE, "sheet 3 " + bits + " MIN");
        }
    }

    static void promise35BeyondOfTheOthersAheadOfState() {
        new Edge(Edge.port()).beyond(new int[] {-1, 4}, "sheet # 8 -1").beyond(new int[] {-1, 7, 33}, "sheet 0 # -1")
            .beyond(new int[] {-1, 4}, "sheet # 0 -1");
    }

    static void promise35MissingWhateverN() {
        Edge port = new Edge(Edge.port());
        for (String n : new String[] {"0", "-1", "40", "41", "MIN", "MAX"}) {
            port.gives(1, "sheet 0 0 " + n).refuses(NONE, "sheet 0 0 " + n, "lies 0").gives(1, "sheet 3 0 " + n)
                .refuses(NONE, "sheet 3 0 " + n, "judge 3").gives(0, "sheet 3 0 " + n, "told 1")
                .gives(0, "sheet 3 0 " + n, "told 3");
        }
    }

    static void promise35AllAre0Anew() {
        Edge port = new Edge(Edge.port());
        for (int n : new int[] {1, 2, 3, 4}) {
            port.gives(n, "sheet 0 8 " + n, "lies 0").gives(0, "sheet 0 8 " + n, "lies 0", "ofCell " + (n - 1) + " 1");
        }
        port.gives(0, "sheet 0 0 0", "sheet 0 8 3", "lies 0", "ofCell 0 1")
            .gives(0, "sheet 0 8 0", "sheet 0 8 3", "lies 0", "ofCell 2 1")
            .gives(0, "sheet 0 8 2", "sheet 0 8 3", "lies 0", "ofCell 2 1");
    }

    // ---- promise 36

    static void promise36Sheets0To3() {
        new Edge(Edge.port()).beyond(new int[] {-1, 4}, "put # 0 0");
        new Edge("sheet 0 8 1", "sheet 3 8 1").within(0, 1, 3, 1, "put # 0 9");
    }

    static void promise36ASheetThatIsMissing() {
        new Edge(Edge.port()).refuses(NONE, "put 3 0 0").refuses(NONE, "sheet 0 0 0", "put 0 0 0");
    }

    static void promise36SheetAheadOfMissingAheadOfNumber() {
        new Edge(Edge.port()).refuses(BEYOND, "put 4 -1 0").refuses(NONE, "put 3 -1 0").refuses(NONE, "put 3 MAX 0");
    }

    static void promise36Numbers() {
        new Edge(Edge.port()).within(0, 1, 2, 1, "put 0 # 5").within(0, 1, 1, 1, "put 1 # 5")
            .beyond(new int[] {-1, 0}, "put 2 # 5");
        new Edge("sheet 0 16 40").within(0, 1, 39, 1, "put 0 # 5");
    }

    static void promise36OneNumberAlone() {
        Edge port = new Edge(Edge.port());
        port.gives(5, "put 0 1 5", "lies 0", "ofCell 1 1").gives(7, "put 0 1 5", "lies 0", "ofCell 0 1")
            .gives(90, "put 0 1 5", "lies 0", "ofCell 2 1");
    }

    /** A number of so many bits, as lies() shows it if it is 0 to 99. */
    private static void held(int bits, int v, int due) {
        Edge sheet = new Edge("sheet 0 " + bits + " 1", "put 0 0 " + v);
        if (due >= 0 && due <= 99) {
            sheet.gives(1, "lies 0").gives(due, "lies 0", "ofCell 0 1");
        } else {
            sheet.gives(0, "lies 0");
        }
    }

    static void promise36EightBits() {
        held(8, 99, 99);
        held(8, 127, 127);
        held(8, 128, -128);
        held(8, 255, -1);
        held(8, 256, 0);
        held(8, 355, 99);
        held(8, 356, 100);
        held(8, -1, -1);
        held(8, -157, 99);
        held(8, -256, 0);
        held(8, MAX, -1);
        held(8, MIN, 0);
        held(8, 65536 + 5, 5);
    }

    static void promise36SixteenBits() {
        held(16, 256, 256);
        held(16, 261, 261);
        held(16, 32767, 32767);
        held(16, 32768, -32768);
        held(16, 65535, -1);
        held(16, 65536, 0);
        held(16, 65541, 5);
        held(16, -65531, 5);
        held(16, MAX, -1);
        held(16, MIN, 0);
    }

    static void promise36ThirtyTwoBits() {
        held(32, 5, 5);
        held(32, 256, 256);
        held(32, 65536, 65536);
        held(32, 65541, 65541);
        held(32, MAX, MAX);
        held(32, MIN, MIN);
        held(32, -1, -1);
    }

    /** 792 is HAD by eight full BARRELS; 8 bits cannot hold it, and those that wrap to it do so by their bits. */
    static void promise36AsManyBitsAsHadNeeds() {
        String[] full = Edge.fleet();
        for (int boat = 0; boat < 8; boat++) {
            full = Edge.and(full, "change " + boat + " 1 99");
        }
        new Edge(full).gives(0, "sheet 0 8 1", "put 0 0 792", "which 0 0")
            .gives(127, "sheet 0 16 1", "put 0 0 792", "which 0 0")
            .gives(127, "sheet 0 32 1", "put 0 0 792", "which 0 0")
            .gives(127, "sheet 0 16 1", "put 0 0 66328", "which 0 0")
            .gives(127, "sheet 0 16 1", "put 0 0 -64744", "which 0 0")
            .gives(0, "sheet 0 32 1", "put 0 0 66328", "which 0 0");
    }

    // ---- promise 37

    private static Edge five(String... more) {
        String[] calls = Edge.and(sheetOf(0, 16, 1, 2, 3, 4, 5), sheetOf(1, 16, 11, 12, 13));
        return new Edge(Edge.and(Edge.and(Edge.port(), calls), more));
    }

    static void promise37Sheets0To3() {
        new Edge(Edge.port()).beyond(new int[] {-1, 4}, "move # 0 0 0 0").beyond(new int[] {-1, 4}, "move 0 0 # 0 0");
        new Edge("sheet 0 8 0", "sheet 3 8 0").within(0, 0, 3, 0, "move # 0 0 0 0").within(0, 0, 3, 0, "move 0 0 # 0 0");
    }

    static void promise37SheetsAheadOfMissing() {
        new Edge(Edge.port()).beyond(new int[] {-1, 4}, "move 3 0 # 0 0").beyond(new int[] {-1, 4}, "move # 0 3 0 0");
    }

    static void promise37OneIsMissing() {
        new Edge(Edge.port()).refuses(NONE, "move 3 0 0 0 0").refuses(NONE, "move 0 0 3 0 0")
            .refuses(NONE, "move 3 0 3 0 0");
    }

    static void promise37MissingAheadOfTheRest() {
        new Edge(Edge.port()).refuses(NONE, "move 3 -1 0 -1 -1").refuses(NONE, "move 0 9 3 9 9");
    }

    static void promise37UnlikeBits() {
        new Edge(Edge.port()).refuses(KIND, "move 0 0 1 0 1").refuses(KIND, "move 1 0 0 0 1")
            .refuses(KIND, "move 1 0 2 0 0")
            .gives(1, "sheet 2 8 1", "move 0 0 2 0 1").gives(1, "sheet 2 16 1", "move 1 0 2 0 1");
    }

    static void promise37UnlikeBitsAheadOfTheRest() {
        new Edge(Edge.port()).refuses(KIND, "move 0 -1 1 0 1").refuses(KIND, "move 0 0 1 -1 1")
            .refuses(KIND, "move 0 0 1 0 -1")
            .refuses(KIND, "move 0 9 1 9 9");
    }

    static void promise37NoneIsBelow0() {
        five().gives(0, "move 0 0 1 0 0").beyond(new int[] {-1}, "move 0 # 1 0 0")
            .beyond(new int[] {-1}, "move 0 0 1 # 0")
            .beyond(new int[] {-1}, "move 0 0 1 0 #").beyond(new int[] {-1}, "move 0 # 1 0 1")
            .beyond(new int[] {-1}, "move 0 0 1 # 1");
    }

    static void promise37TheyStandWhereTheyComeFrom() {
        five().gives(5, "move 0 0 0 0 5").refuses(BEYOND, "move 0 0 0 0 6").gives(1, "move 0 4 1 0 1")
            .refuses(BEYOND, "move 0 5 1 0 1")
            .gives(3, "move 0 2 1 0 3").refuses(BEYOND, "move 0 3 1 0 3");
    }

    static void promise37TheyStandWhereTheyComeTo() {
        five().gives(3, "move 0 0 1 0 3").refuses(BEYOND, "move 0 0 1 0 4").gives(1, "move 0 0 1 2 1")
            .refuses(BEYOND, "move 0 0 1 3 1")
            .gives(2, "move 0 0 1 1 2").refuses(BEYOND, "move 0 0 1 1 3");
    }

    static void promise37NoNumbersAtTheEnds() {
        five().gives(0, "move 0 5 1 3 0").refuses(BEYOND, "move 0 6 1 0 0").refuses(BEYOND, "move 0 0 1 4 0");
        new Edge("sheet 0 8 0").gives(0, "move 0 0 0 0 0").refuses(BEYOND, "move 0 1 0 0 0")
            .refuses(BEYOND, "move 0 0 0 1 0")
            .refuses(BEYOND, "move 0 0 0 0 1");
    }

    static void promise37SumsThatGoRound() {
        five().refuses(BEYOND, "move 0 1 1 0 MAX").refuses(BEYOND, "move 0 0 1 1 MAX").refuses(BEYOND, "move 0 MAX 1 0 1")
            .refuses(BEYOND, "move 0 0 1 MAX 1").refuses(BEYOND, "move 0 MAX 1 MAX MAX")
            .refuses(BEYOND, "move 0 2 1 0 2147483646");
    }

    static void promise37AsTheyAllWere() {
        int[][] rows = {{0, 1, 1}, {1, 0, 4}, {0, 2, 3}, {2, 0, 3}};
        int[][] due = {{1, 1, 3, 4, 5}, {2, 3, 4, 5, 5}, {1, 2, 1, 2, 3}, {3, 4, 5, 4, 5}};
        for (int row = 0; row < rows.length; row++) {
            String move = "move 0 " + rows[row][0] + " 0 " + rows[row][1] + " " + rows[row][2];
            for (int i = 0; i < 5; i++) {
                five().gives(due[row][i], move, "lies 0", "ofCell " + i + " 1");
            }
        }
        five().gives(4, "move 0 0 0 1 4", "lies 0", "ofCell 4 1").gives(1, "move 0 0 0 1 4", "lies 0", "ofCell 1 1");
    }

    static void promise37OnlySoManyAndOnlyThere() {
        int[] due = {11, 4, 5};
        for (int i = 0; i < 3; i++) {
            five().gives(due[i], "move 0 3 1 1 2", "lies 1", "ofCell " + i + " 1")
                .gives(i + 3, "move 0 3 1 1 2", "lies 0", "ofCell " + (i + 2) + " 1");
        }
    }

    static void promise37FortyNumbers() {
        new Edge("sheet 0 32 40", "sheet 1 32 40", "put 0 39 77", "put 0 0 66").gives(40, "move 0 0 1 0 40")
            .refuses(BEYOND, "move 0 0 1 0 41")
            .refuses(BEYOND, "move 0 1 1 0 40").gives(77, "move 0 0 1 0 40", "move 1 39 1 0 1", "lies 1", "ofCell 0 1");
    }

    // ---- promise 38

    static void promise38Sheets0To3() {
        new Edge(Edge.port()).beyond(new int[] {-1, 4}, "lies #").gives(3, "lies 0").gives(1, "lies 1")
            .gives(0, "lies 2");
        new Edge("sheet 0 8 2", "sheet 3 8 3").within(0, 2, 3, 3, "lies #");
    }

    static void promise38ASheetThatIsMissing() {
        new Edge(Edge.port()).refuses(NONE, "lies 3");
    }

    static void promise38UpToTheFirstThatIsNot0To99() {
        Edge stop = new Edge(Edge.and(sheetOf(0, 32, 0, 99, 5, 100, 7), "cell 2 1 43", "cell 3 1 44", "cell 4 1 45"));
        stop.gives(3, "lies 0").gives(0, "lies 0", "told 1").gives(0, "lies 0", "ofCell 0 1")
            .gives(99, "lies 0", "ofCell 1 1")
            .gives(5, "lies 0", "ofCell 2 1").gives(44, "lies 0", "ofCell 3 1").gives(45, "lies 0", "ofCell 4 1")
            .gives(1, "put 0 1 -1", "lies 0").gives(43, "put 0 1 -1", "lies 0", "ofCell 2 1")
            .gives(0, "put 0 0 100", "lies 0")
            .gives(5, "put 0 3 99", "lies 0");
    }

    static void promise38NoNumbers() {
        new Edge("sheet 0 8 0", "cell 0 1 5").keeps(0, "lies 0").gives(5, "lies 0", "ofCell 0 1");
    }

    static void promise38UpToTheLastCell() {
        for (int n : new int[] {15, 16, 17, 40}) {
            Edge sheet = new Edge("sheet 0 8 " + n, "put 0 14 14", "cell 15 1 55");
            sheet.gives(Math.min(16, n), "lies 0").gives(n == 15 ? 55 : 0, "lies 0", "ofCell 15 1")
                .gives(14, "lies 0", "ofCell 14 1");
        }
        new Edge("sheet 0 32 17", "put 0 16 100").gives(16, "lies 0");
        new Edge("sheet 0 32 17", "put 0 15 100").gives(15, "lies 0");
    }

    // ---- promise 39

    static void promise39Sheets0To3() {
        new Edge(Edge.port()).beyond(new int[] {-1, 4}, "judge #").keeps(0, "judge 0");
        new Edge("sheet 0 8 0", "sheet 3 8 1").within(0, -1, 3, 0, "judge #");
    }

    static void promise39ASheetThatIsMissing() {
        new Edge(Edge.port()).refuses(NONE, "judge 3");
    }

    static void promise39AllAre() {
        new Edge("sheet 0 8 0").keeps(-1, "judge 0");
        for (int bits : new int[] {8, 16, 32}) {
            new Edge(Edge.and(Edge.port(), sheetOf(0, bits, 33, 94, 0, 50))).keeps(-1, "judge 0");
        }
    }

    static void promise39TheFirstThatIsntSo() {
        Edge port = new Edge(Edge.and(Edge.port(), sheetOf(0, 16, 33, 94, 0, 50)));
        for (int i = 0; i < 4; i++) {
            port.keeps(i, "put 0 " + i + " 60", "judge 0").keeps(i, "put 0 " + i + " 60", "put 0 3 1", "judge 0")
                .keeps(i, "put 0 " + i + " -1", "judge 0");
        }
        port.keeps(0, "put 0 0 34", "judge 0").keeps(0, "put 0 0 32", "judge 0");
    }

    static void promise39OneThatLacks() {
        new Edge(Edge.and(Edge.port(), sheetOf(0, 16, 33, 94, 0))).keeps(3, "judge 0").keeps(1, "put 0 1 0", "judge 0");
        new Edge(Edge.port()).keeps(0, "judge 2");
        new Edge(Edge.and(Edge.fleet(), "sheet 0 8 7")).keeps(7, "judge 0");
    }

    static void promise39OneThatIsTooMany() {
        new Edge(Edge.and(Edge.port(), sheetOf(0, 16, 33, 94, 0, 50, 0))).keeps(4, "judge 0")
            .keeps(3, "put 0 3 0", "judge 0");
        new Edge("sheet 0 8 1").keeps(0, "judge 0");
        new Edge(Edge.and(Edge.fleet(), "sheet 0 8 8")).keeps(-1, "judge 0").keeps(8, "sheet 0 8 9", "judge 0")
            .keeps(8, "sheet 0 8 40", "judge 0");
    }
}
