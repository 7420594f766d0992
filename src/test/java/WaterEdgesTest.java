/** The boundaries of promises 1 to 8: a new object, CELLS, THE LIST, DARK, WEARERS. */
public final class WaterEdgesTest {
    private static final int BEYOND = Edge.BEYOND;
    private static final int NONE = Edge.NONE;

    public static void main(String[] args) {
        Edge.run(WaterEdgesTest.class, 1, 8);
    }

    // ---- terms: what is so at first

    static void terms1DeepIsTheRestBy10AtFirst() {
        Edge fresh = new Edge();
        for (int cell = 0; cell < 16; cell++) {
            fresh.gives(cell < 10 ? cell : cell - 10, "ofCell " + cell + " 0");
        }
    }

    static void terms1StuffIs0AtFirst() {
        Edge fresh = new Edge();
        for (int cell = 0; cell < 16; cell++) {
            fresh.gives(0, "ofCell " + cell + " 1");
        }
    }

    static void terms1MinuteIs0AndDarkIs14AtFirst() {
        new Edge().gives(0, "count 1").gives(14, "count 4");
    }

    static void terms1WaysAre0AndWantsAre10AtFirst() {
        Edge fresh = new Edge();
        for (int i = 0; i < 6; i++) {
            fresh.gives(0, "ofList " + i).gives(10, "ofWearer " + i);
        }
    }

    static void terms1TheErrorsAreLowLess1To5() {
        new Edge().refuses(-1000000001, "dark 0").refuses(-1000000002, "restore").refuses(-1000000003, "sheet 0 8 -1");
        new Edge(Edge.fleet()).refuses(-1000000004, "boat 0 0").refuses(-1000000005, "as 0 6");
    }

    static void terms1DarkBelow14AtFirst() {
        new Edge("minutes 12").gives(0, "minutes 1", "count 5").gives(1, "minutes 2", "count 5");
    }

    static void terms1DarkGoesRoundBy20() {
        new Edge("minutes 18").gives(1, "minutes 1", "count 5").gives(0, "minutes 2", "count 5");
        new Edge("minutes 33").gives(0, "count 5").gives(1, "minutes 1", "count 5").gives(0, "minutes 7", "count 5");
    }

    static void terms1Dark1IsDarkInOneMinuteAlone() {
        new Edge("dark 1").gives(0, "count 5").gives(1, "minutes 1", "count 5").gives(1, "minutes 19", "count 5")
            .gives(0, "minutes 20", "count 5");
    }

    static void terms1Dark20IsDarkAlways() {
        new Edge("dark 20").gives(0, "minutes 19", "count 5").gives(0, "minutes 20", "count 5");
        new Edge("dark 19").gives(0, "minutes 18", "count 5").gives(1, "minutes 19", "count 5");
    }

    static void terms1ThePlaceOfAMinuteGoesRoundBy6() {
        Edge list = new Edge("boat 0 5", "list 0 1", "list 1 2", "list 2 3", "list 3 4", "list 4 1", "list 5 3");
        list.gives(1, "ofBoat 0 5").gives(3, "minutes 5", "ofBoat 0 5").gives(1, "minutes 6", "ofBoat 0 5")
            .gives(2, "minutes 7", "ofBoat 0 5").gives(3, "minutes 59", "ofBoat 0 5")
            .gives(1, "minutes 60", "ofBoat 0 5");
    }

    // ---- promise 1

    static void promise01NoBoats() {
        new Edge().gives(0, "count 0").gives(0, "count 2").refuses(BEYOND, "ofBoat 0 0").gives(0, "ofCell 0 2");
    }

    static void promise01NoImageNoTraceNothingWaits() {
        new Edge().refuses(NONE, "restore").refuses(NONE, "trace 0").gives(0, "count 9").gives(0, "count 8")
            .gives(0, "check");
    }

    static void promise01SheetsAreMissing() {
        Edge fresh = new Edge();
        for (int sheet = 0; sheet < 4; sheet++) {
            fresh.refuses(NONE, "lies " + sheet).refuses(NONE, "judge " + sheet).refuses(NONE, "put " + sheet + " 0 0");
        }
    }

    static void promise01NoTextsAndAnEmptyTape() {
        new Edge().gives(0, "count 7").gives(-10, "text 0").gives(6, "law 0 5 6 7").gives(0, "law 1 5 6 0")
            .gives(5, "law 1 5 6 7");
    }

    static void promise01TheSeedIs1AndNothingIsTold() {
        new Edge().gives(1, "count 10").gives(1, "seed 1");
        for (int k = 1; k <= 5; k++) {
            new Edge().gives(0, "told " + k);
        }
    }

    // ---- promise 2

    static void promise02Cells0To15() {
        new Edge(Edge.port()).within(0, 4, 15, 6, "cell # 0 1").within(0, 11, 15, 12, "cell # 1 1");
    }

    static void promise02What0To1() {
        new Edge(Edge.port()).within(0, 6, 1, 12, "cell 15 # 3");
    }

    static void promise02Deep0To9() {
        new Edge(Edge.port()).within(0, 6, 9, 6, "cell 15 0 #");
        new Edge(Edge.port()).gives(0, "cell 15 0 0", "ofCell 15 0").gives(9, "cell 15 0 9", "ofCell 15 0");
    }

    static void promise02Stuff0To99() {
        new Edge(Edge.port()).within(0, 12, 99, 12, "cell 15 1 #").gives(12, "cell 15 1 10");
        new Edge(Edge.port()).gives(0, "cell 15 1 0", "ofCell 15 1").gives(99, "cell 15 1 99", "ofCell 15 1");
    }

    static void promise02OneCellAlone() {
        new Edge(Edge.port()).gives(11, "cell 1 1 99", "ofCell 0 1").gives(26, "cell 1 1 99", "ofCell 2 1")
            .gives(1, "cell 1 1 99", "ofCell 1 0").gives(26, "cell 1 0 9", "ofCell 1 1");
    }

    // ---- promise 3

    static void promise03Cells0To15() {
        new Edge(Edge.port()).within(0, 4, 15, 6, "ofCell # 0").within(0, 11, 15, 12, "ofCell # 1")
            .within(0, 0, 15, 8, "ofCell # 2").within(0, 6, 15, 7, "ofCell # 3");
    }

    static void promise03What0To3() {
        new Edge(Edge.port()).within(0, 5, 3, 21, "ofCell 5 #");
        new Edge(Edge.port()).keeps(5, "ofCell 5 0").keeps(40, "ofCell 5 1").keeps(2, "ofCell 5 2")
            .keeps(21, "ofCell 5 3");
    }

    static void promise03WhoIsOnItFromNobodyToEight() {
        new Edge(Edge.fleet()).gives(255, "ofCell 0 2").gives(0, "ofCell 1 2").gives(127, "change 7 0 1", "ofCell 0 2")
            .gives(128, "change 7 0 1", "ofCell 1 2").gives(1, "change 0 0 15", "ofCell 15 2");
    }

    static void promise03SettlesHeldWithin0And99() {
        Edge text = new Edge("tape s-5+d*10", "text 0", "cell 9 0 9");
        text.gives(0, "cell 0 1 5", "ofCell 0 3").gives(1, "cell 0 1 6", "ofCell 0 3")
            .gives(0, "cell 0 1 0", "ofCell 0 3")
            .gives(99, "cell 9 1 14", "ofCell 9 3").gives(98, "cell 9 1 13", "ofCell 9 3")
            .gives(99, "cell 9 1 15", "ofCell 9 3");
    }

    static void promise03SettlesByTheRestOfMinuteBy20() {
        Edge text = new Edge("tape t", "text 0");
        text.gives(0, "ofCell 0 3").gives(19, "minutes 19", "ofCell 0 3").gives(0, "minutes 20", "ofCell 0 3");
    }

    static void promise03SettlesDarkOrNot() {
        new Edge().gives(9, "minutes 13", "ofCell 9 3").gives(9, "minutes 14", "ofCell 9 3");
        new Edge("tape d+1", "text 0").gives(10, "minutes 13", "ofCell 9 3").gives(10, "minutes 14", "ofCell 9 3");
    }

    static void promise03SettlesWithoutATextIsDeep() {
        new Edge("cell 3 1 50").gives(3, "ofCell 3 3").gives(0, "cell 3 0 0", "ofCell 3 3")
            .gives(9, "cell 3 0 9", "ofCell 3 3");
    }

    // ---- promise 4

    static void promise04Places0To5() {
        new Edge(Edge.port()).within(0, 3, 5, 1, "list # 2");
    }

    static void promise04Ways0To4() {
        new Edge(Edge.port()).within(0, 2, 4, 2, "list 1 #").gives(0, "list 1 0", "ofList 1")
            .gives(4, "list 1 4", "ofList 1");
    }

    static void promise04OnePlaceAlone() {
        new Edge(Edge.port()).gives(2, "list 0 4", "ofList 1").gives(3, "list 1 4", "ofList 0")
            .gives(4, "list 5 0", "ofList 4");
    }

    // ---- promise 5

    static void promise05Places0To5() {
        new Edge(Edge.port()).within(0, 3, 5, 1, "ofList #").keeps(2, "ofList 1");
    }

    // ---- promise 6

    static void promise06Dark1To20() {
        new Edge(Edge.port()).within(1, 11, 20, 11, "dark #").gives(1, "dark 1", "count 4")
            .gives(20, "dark 20", "count 4");
    }

    static void promise06ItIsDarkByTheNewDarkAtOnce() {
        new Edge(Edge.port()).gives(0, "dark 8", "count 5").gives(1, "dark 7", "count 5");
    }

    // ---- promise 7

    static void promise07Wearers0To5() {
        new Edge(Edge.port()).within(0, 12, 5, 98, "wants # 3");
    }

    static void promise07Wants0To99() {
        new Edge(Edge.port()).within(0, 98, 99, 98, "wants 5 #").gives(0, "wants 5 0", "ofWearer 5")
            .gives(99, "wants 5 99", "ofWearer 5");
    }

    static void promise07OneWearerAlone() {
        new Edge(Edge.port()).gives(12, "wants 1 99", "ofWearer 0").gives(77, "wants 1 99", "ofWearer 2");
    }

    // ---- promise 8

    static void promise08Wearers0To5() {
        new Edge(Edge.port()).within(0, 12, 5, 98, "ofWearer #").keeps(77, "ofWearer 2");
    }
}
