/** The boundaries of promises 40 to 45: IMAGES, numbers that wait, what is counted and told. */
public final class ImageEdgesTest {
    private static final int BEYOND = Edge.BEYOND;
    private static final int NONE = Edge.NONE;
    private static final int FULL = Edge.FULL;
    private static final String FIFTY = "s" + "+1".repeat(23) + "+10";

    public static void main(String[] args) {
        Edge.run(ImageEdgesTest.class, 40, 45);
    }

    /** A BOAT that has 1 more with each MINUTE, and the first n of the numbers that are due then wait. */
    private static String[] waiting(int n) {
        String[] calls = Edge.oneByOne();
        for (int i = 1; i <= n; i++) {
            calls = Edge.and(calls, "tell " + i);
        }
        return calls;
    }

    // ---- promise 40

    static void promise40HowOften() {
        new Edge().gives(1, "image").gives(2, "image", "image").gives(3, "image", "image", "image");
        new Edge(Edge.port()).gives(2, "image").gives(2, "restore", "image").gives(3, "image", "restore", "image");
    }

    static void promise40InPlaceOfTheOneAhead() {
        new Edge("dark 3", "image", "dark 4", "image", "dark 5").gives(4, "restore", "count 4");
    }

    static void promise40NoBoatsToEight() {
        new Edge(Edge.and(new String[] {"image"}, Edge.fleet())).gives(0, "restore", "count 0")
            .refuses(BEYOND, "restore", "ofBoat 0 0")
            .gives(0, "restore", "boat 0 0").gives(0, "restore", "count 2");
        new Edge(Edge.and(Edge.fleet(), "change 7 1 99", "image", "change 7 1 5")).gives(8, "restore", "count 0")
            .gives(99, "restore", "ofBoat 7 3").refuses(FULL, "restore", "boat 0 0");
    }

    static void promise40AnEmptyTapeToFiftyBytes() {
        new Edge("image", "tape " + FIFTY).gives(0, "restore", "count 7").gives(-10, "restore", "text 0")
            .gives(1, "restore", "feed 0x31 1");
        new Edge("tape " + FIFTY, "image", "text 0").gives(50, "restore", "count 7").refuses(FULL, "restore", "feed 0 1")
            .gives(1, "restore", "text 0").gives(33, "restore", "text 0", "law 0 0 0 0");
    }

    static void promise40NoTextToOneOfFiftyBytes() {
        new Edge("image", "tape " + FIFTY, "text 0", "tape 7", "text 1").gives(4, "restore", "law 0 3 4 5")
            .gives(3, "restore", "law 1 3 4 5");
        new Edge("tape " + FIFTY, "text 0", "tape b", "text 1", "image", "tape 7", "text 0", "tape 8", "text 1")
            .gives(33, "restore", "law 0 0 0 0").gives(4, "restore", "law 1 3 4 5");
    }

    static void promise40NothingWaitsToTwenty() {
        new Edge(Edge.and(new String[] {"image"}, waiting(20))).gives(0, "restore", "count 8")
            .gives(1, "restore", "tell 0");
        new Edge(Edge.and(waiting(20), "image", "check")).gives(20, "restore", "count 8").gives(0, "restore", "check")
            .refuses(FULL, "restore", "tell 0");
    }

    static void promise40AllTheRest() {
        new Edge("cell 15 0 9", "cell 15 1 99", "list 5 4", "dark 1", "wants 5 99", "seed MIN", "boat 69 15",
            "minutes 1", "image",
            "cell 15 0 0", "cell 15 1 0", "list 5 0", "dark 20", "wants 5 0", "seed 0", "become 0 0", "change 0 0 0",
                "minutes 3")
            .gives(9, "restore", "ofCell 15 0").gives(89, "restore", "ofCell 15 1").gives(4, "restore", "ofList 5")
            .gives(1, "restore", "count 4").gives(99, "restore", "ofWearer 5")
            .gives(Integer.MIN_VALUE, "restore", "count 10")
            .gives(6, "restore", "ofBoat 0 0").gives(9, "restore", "ofBoat 0 1").gives(14, "restore", "ofBoat 0 2")
            .gives(10, "restore", "ofBoat 0 3").gives(1, "restore", "count 1");
    }

    static void promise40ButNotSheetsTheTraceAndWhatIsTold() {
        new Edge("image", "sheet 0 8 2", "boat 0 0", "voice 0 3 1", "dark 0").gives(2, "restore", "lies 0")
            .gives(4, "restore", "count 9")
            .gives(13, "restore", "trace 0").gives(1, "restore", "told 1");
        new Edge("sheet 0 8 2", "boat 0 0", "voice 0 0 1", "image", "sheet 0 0 0", "voice 0 3 1")
            .refuses(NONE, "restore", "lies 0")
            .gives(4, "restore", "count 9");
    }

    static void promise40NothingChanges() {
        new Edge(Edge.port()).gives(177, "image", "count 2").gives(6, "image", "count 7").gives(2, "image", "count 8")
            .gives(0, "image", "check").gives(12, "image", "trace 3").gives(7, "image", "count 1");
    }

    // ---- promise 41

    static void promise41ThereIsNone() {
        new Edge().refuses(NONE, "restore");
        new Edge(Edge.unkeptPort()).refuses(NONE, "restore");
    }

    static void promise41MinuteFrom0To9999() {
        new Edge("image").gives(0, "restore").gives(0, "minutes 60", "restore")
            .gives(0, "minutes 60", "restore", "count 1");
        new Edge(Edge.and(new String[] {"image"}, Edge.late())).gives(0, "restore")
            .gives(1, "restore", "minutes 1", "count 1");
        new Edge(Edge.and(Edge.late(), "image")).gives(9999, "restore").refuses(Edge.STATE, "restore", "minutes 1");
    }

    static void promise41TheImageStays() {
        new Edge("dark 3", "image", "dark 4").gives(3, "restore", "dark 9", "restore", "count 4")
            .gives(0, "restore", "minutes 9", "restore");
        new Edge("tell 1", "image").gives(1, "restore", "check", "restore", "count 8");
        new Edge("tape s", "image").gives(1, "restore", "text 0", "restore", "count 7");
    }

    static void promise41WhatIsDoneLaterDoesNotReachTheImage() {
        new Edge("boat 0 0", "tape 3", "text 0", "image", "restore", "change 0 1 9", "tape 4", "text 0", "cell 9 1 9",
            "tell 4")
            .gives(0, "restore", "ofBoat 0 3").gives(3, "restore", "law 0 0 0 0").gives(0, "restore", "ofCell 9 1")
            .gives(0, "restore", "count 8");
    }

    // ---- promise 42

    static void promise42TwentyWait() {
        new Edge(waiting(0)).gives(1, "tell 5");
        new Edge(waiting(18)).gives(19, "tell 5");
        new Edge(waiting(19)).gives(20, "tell 5").refuses(FULL, "tell 5", "tell 6");
        new Edge(waiting(20)).refuses(FULL, "tell 21").refuses(FULL, "tell MIN").gives(20, "tell 21", "count 8")
            .gives(0, "tell 21", "check")
            .gives(1, "check", "tell 1");
        new Edge(Edge.fullPort()).refuses(FULL, "tell 5").refuses(FULL, "tell MIN").gives(20, "count 8");
    }

    static void promise42AnyNumber() {
        new Edge().gives(1, "tell MIN").gives(1, "tell MAX").gives(2, "tell -1000000001", "tell 0")
            .gives(0, "tell -1000000001", "told 1");
    }

    // ---- promise 43

    static void promise43NoneWait() {
        new Edge().keeps(0, "check");
        new Edge(Edge.oneByOne()).keeps(0, "check");
    }

    static void promise43OneAndThePlace() {
        new Edge(waiting(20)).gives(0, "check");
        for (int n : new int[] {0, 1, 9, 18, 19}) {
            new Edge(waiting(n)).gives(n + 1, "tell 0", "check").gives(n + 1, "tell MIN", "check")
                .gives(0, "tell " + (n + 1), "check")
                .gives(n + 1, "tell " + (n + 2), "check");
        }
    }

    static void promise43TheFirstThatIsntSo() {
        new Edge(Edge.oneByOne()).gives(2, "tell 1", "tell 9", "tell 3", "tell 9", "check")
            .gives(1, "tell 9", "tell 9", "check")
            .gives(3, "tell 1", "tell 2", "tell 2", "check");
    }

    static void promise43NoneWaitThen() {
        new Edge(waiting(20)).gives(0, "check", "count 8").gives(0, "check", "check").gives(1, "check", "tell 7");
        new Edge(waiting(3)).gives(0, "tell 0", "check", "count 8").gives(0, "tell 0", "check", "check");
    }

    static void promise43Behind1NotNow() {
        new Edge(Edge.oneByOne()).gives(1, "tell 0", "check").gives(0, "tell 1", "check");
        new Edge(Edge.port()).gives(0, "check").gives(3, "tell 177", "check");
    }

    static void promise43OnlyThought() {
        new Edge(waiting(20)).gives(0, "check", "count 1").gives(0, "check", "count 2").gives(20, "check", "then 20 0");
        new Edge(Edge.port()).gives(7, "check", "count 1").gives(177, "check", "count 2").gives(380, "check", "count 3");
    }

    static void promise43MinuteBeyond9999() {
        // A PUNT dips 30 of 92 by light, then 22 of 66 in the dark.
        Edge late = new Edge(Edge.and(Edge.late(), "change 0 0 4", "change 0 1 0", "cell 4 1 99"));
        late.gives(0, "tell 30", "tell 52", "check").gives(2, "tell 30", "tell 51", "check")
            .gives(9999, "tell 30", "check", "count 1");
    }

    // ---- promise 44

    static void promise44What0To10() {
        new Edge(Edge.port()).within(0, 4, 10, 12345, "count #");
        int[] due = {4, 7, 177, 380, 11, 0, 217, 6, 2, 4, 12345};
        for (int what = 0; what <= 10; what++) {
            new Edge(Edge.port()).keeps(due[what], "count " + what);
        }
    }

    static void promise44BoatsMinuteAndHad() {
        new Edge(Edge.fleet()).gives(8, "count 0");
        new Edge(Edge.late()).gives(9999, "count 1");
        String[] full = Edge.fleet();
        for (int boat = 0; boat < 8; boat++) {
            full = Edge.and(full, "change " + boat + " 1 99");
        }
        new Edge(full).gives(792, "count 2").gives(791, "change 7 1 98", "count 2");
    }

    static void promise44StuffAndWants() {
        String[] most = {};
        for (int cell = 0; cell < 16; cell++) {
            most = Edge.and(most, "cell " + cell + " 1 99");
        }
        new Edge(most).gives(1584, "count 3").gives(1485, "cell 15 1 0", "count 3").gives(1485, "cell 0 1 0", "count 3");
        new Edge("wants 0 99", "wants 1 99", "wants 2 99", "wants 3 99", "wants 4 99").gives(594, "wants 5 99", "count 6")
            .gives(495, "wants 5 0", "count 6");
        new Edge().gives(60, "count 6").gives(0, "count 3");
    }

    static void promise44DarkAndLight() {
        new Edge().gives(1, "dark 1", "count 4").gives(20, "dark 20", "count 4").gives(0, "minutes 13", "count 5")
            .gives(1, "minutes 14", "count 5")
            .gives(1, "minutes 19", "count 5").gives(0, "minutes 20", "count 5");
    }

    static void promise44TapeWaitingAndTrace() {
        new Edge("tape " + FIFTY).gives(50, "count 7");
        new Edge(waiting(20)).gives(20, "count 8");
        new Edge("boat 60 0").gives(0, "count 9").gives(9, "voice 0 3 0", "count 9").gives(1, "voice 0 0 0", "count 9");
    }

    static void promise44TheSeedMayBeAnyNumber() {
        new Edge("seed -1000000001").gives(-1000000001, "count 10").gives(0, "count 10", "told 1");
        new Edge("seed MIN").gives(Integer.MIN_VALUE, "count 10");
        new Edge("seed MAX").gives(Integer.MAX_VALUE, "count 10");
    }

    // ---- promise 45

    static void promise45Errors1To5() {
        new Edge("dark 0", "restore", "restore", "sheet 0 8 -1").gives(1, "told 1").gives(2, "told 2").gives(1, "told 3")
            .gives(0, "told 4")
            .gives(0, "told 5");
        new Edge(Edge.and(Edge.fleet(), "boat 0 0", "boat 0 0", "boat 0 0", "as 0 1", "as 0 6")).gives(0, "told 1")
            .gives(3, "told 4")
            .gives(2, "told 5").within(1, 0, 5, 2, "told #");
    }

    static void promise45AnotherKIsCountedToo() {
        new Edge(Edge.port()).beyond(new int[] {0, -1, 6}, "told #").gives(1, "told 0", "told 1")
            .gives(3, "told 0", "told 6", "told MIN", "told 1");
    }

    static void promise45AskingChangesNothing() {
        new Edge(Edge.port()).keeps(0, "told 1").keeps(0, "told 5").keeps(1, "told 0", "told 1");
    }

    static void promise45WhatIsNoErrorIsNotCounted() {
        String[] calm = {"text 0", "sheet 0 32 1", "put 0 0 100", "lies 0", "judge 0", "tell 9", "check", "boat 0 0",
            "voice 0 0 -1000000001",
            "seed -1000000001", "count 10", "lay 0 0 0", "match 5"};
        for (int k = 1; k <= 5; k++) {
            new Edge(calm).gives(0, "told " + k);
        }
    }

    static void promise45NeitherImageNorRestoreChangesIt() {
        new Edge("dark 0", "image", "dark 0", "restore").gives(2, "told 1");
    }
}
