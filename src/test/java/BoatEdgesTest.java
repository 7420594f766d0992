/** The boundaries of promises 9 to 13: BOATS, their KINDS, what they DIP, how they go, what they LEAK. */
public final class BoatEdgesTest {
    private static final int BEYOND = Edge.BEYOND;
    private static final int FULL = Edge.FULL;
    private static final int KIND = Edge.KIND;
    /** For each KIND those as one of which it goes, itself and those above it. */
    private static final int[][] AS = {{0}, {1, 0}, {2, 0}, {3, 0}, {4, 1, 0}, {5, 2, 0}, {6, 3, 0}};

    public static void main(String[] args) {
        Edge.run(BoatEdgesTest.class, 9, 13);
    }

    /** One BOAT of this KIND and m on CELL 6. */
    private static Edge one(int kind, int m, String... ahead) {
        return new Edge(Edge.and(new String[] {"boat " + (10 * kind + m) + " 6"}, ahead));
    }

    private static Edge dips(int kind, int m, int stuff, int due) {
        return one(kind, m, "cell 6 1 " + stuff).gives(due, "ofBoat 0 4");
    }

    private static Edge goes(int kind, int m, int way, int due) {
        return one(kind, m, "list 0 " + way).gives(due, "ofBoat 0 5");
    }

    private static Edge leaks(int kind, int m, int due) {
        return one(kind, m).gives(due, "ofBoat 0 6");
    }

    // ---- terms: what a KIND does at its ends

    static void terms1DipsOfABoatAndASkiff() {
        dips(0, 0, 0, 5);
        dips(0, 9, 99, 5);
        dips(1, 0, 0, 3);
        dips(1, 9, 99, 3);
    }

    static void terms1DipsOfAPuntACutThird() {
        dips(2, 9, 0, 0);
        dips(2, 9, 2, 0);
        dips(2, 9, 3, 1);
        dips(2, 9, 5, 1);
        dips(2, 9, 98, 32);
        dips(2, 9, 99, 33);
    }

    static void terms1DipsOfASimeAndAGhostAbove30() {
        for (int kind : new int[] {3, 6}) {
            dips(kind, 9, 0, 5);
            dips(kind, 9, 30, 5);
            dips(kind, 9, 31, 10);
            dips(kind, 9, 99, 10);
        }
    }

    static void terms1DipsOfAWherryAndItsM() {
        dips(4, 0, 50, 3);
        dips(4, 9, 0, 12);
    }

    static void terms1DipsOfARaftAndTheRestOfItsMBy3() {
        dips(5, 0, 2, 0);
        dips(5, 2, 2, 2);
        dips(5, 3, 2, 0);
        dips(5, 8, 3, 3);
        dips(5, 9, 99, 33);
        dips(5, 8, 99, 35);
    }

    static void terms1GoesOfABoat() {
        goes(0, 7, 0, 0);
        goes(0, 7, 4, 4);
    }

    static void terms1GoesOfASkiffAndAWherry1For3And3For1() {
        for (int kind : new int[] {1, 4}) {
            goes(kind, 7, 0, 0);
            goes(kind, 7, 1, 3);
            goes(kind, 7, 2, 2);
            goes(kind, 7, 3, 1);
            goes(kind, 7, 4, 4);
        }
    }

    static void terms1GoesOfAPuntAndARaft0InOddMinutes() {
        for (int kind : new int[] {2, 5}) {
            one(kind, 7, "list 0 3", "list 1 4").gives(3, "ofBoat 0 5").gives(0, "minutes 1", "ofBoat 0 5")
                .gives(0, "minutes 7", "ofBoat 0 5").gives(3, "minutes 6", "ofBoat 0 5");
        }
    }

    static void terms1GoesOfASimeRound() {
        goes(3, 7, 0, 0);
        goes(3, 7, 1, 2);
        goes(3, 7, 2, 3);
        goes(3, 7, 3, 4);
        goes(3, 7, 4, 1);
    }

    static void terms1GoesOfAGhostTheRestOfItsMBy5IfASimeStays() {
        int[] rests = {0, 1, 2, 3, 4, 0, 1, 2, 3, 4};
        for (int m = 0; m <= 9; m++) {
            goes(6, m, 0, rests[m]);
        }
        goes(6, 3, 1, 2);
        goes(6, 3, 4, 1);
    }

    static void terms1LeaksOfEachKind() {
        leaks(0, 9, 1);
        leaks(1, 9, 2);
        leaks(2, 9, 0);
        leaks(3, 9, 1);
        leaks(5, 9, 1);
        leaks(6, 9, 2);
    }

    static void terms1LeaksOfAWherryAndACutThirdOfItsM() {
        leaks(4, 0, 2);
        leaks(4, 2, 2);
        leaks(4, 3, 3);
        leaks(4, 5, 3);
        leaks(4, 6, 4);
        leaks(4, 8, 4);
        leaks(4, 9, 5);
    }

    // ---- promise 9

    static void promise09Kinds0To6WithM0To9() {
        new Edge(Edge.port()).within(0, 4, 69, 4, "boat # 0");
        Edge fresh = new Edge();
        fresh.gives(0, "boat 0 0", "ofBoat 0 0").gives(0, "boat 0 0", "ofBoat 0 1").gives(0, "boat 9 0", "ofBoat 0 0")
            .gives(9, "boat 9 0", "ofBoat 0 1").gives(1, "boat 10 0", "ofBoat 0 0").gives(0, "boat 10 0", "ofBoat 0 1")
            .gives(5, "boat 59 0", "ofBoat 0 0").gives(9, "boat 59 0", "ofBoat 0 1").gives(6, "boat 60 0", "ofBoat 0 0")
            .gives(0, "boat 60 0", "ofBoat 0 1").gives(6, "boat 69 0", "ofBoat 0 0").gives(9, "boat 69 0", "ofBoat 0 1");
    }

    static void promise09Cells0To15() {
        new Edge(Edge.port()).within(0, 4, 15, 4, "boat 0 #").gives(0, "boat 0 0", "ofBoat 4 2")
            .gives(15, "boat 0 15", "ofBoat 4 2");
    }

    static void promise09TwoMayBeOnOneCell() {
        new Edge(Edge.port()).gives(4, "boat 0 5").gives(18, "boat 0 5", "ofCell 5 2");
    }

    static void promise09AtMost8() {
        new Edge(Edge.times(7, "boat 0 0")).gives(7, "boat 69 15").gives(8, "boat 69 15", "count 0");
        new Edge(Edge.fleet()).refuses(FULL, "boat 0 0").refuses(FULL, "boat 69 15");
        new Edge(Edge.fullPort()).refuses(FULL, "boat 0 0").refuses(FULL, "boat 69 15");
    }

    static void promise09BeyondAheadOfFull() {
        new Edge(Edge.fleet()).beyond(new int[] {-1, 70}, "boat # 0").beyond(new int[] {-1, 16}, "boat 0 #");
    }

    static void promise09TheBarrelIs0AtFirst() {
        new Edge("image", "boat 0 0", "change 0 1 99", "restore").gives(0, "boat 0 0", "ofBoat 0 3");
    }

    // ---- promise 10

    static void promise10OnlyBoatsThatThereAre() {
        new Edge(Edge.port()).within(0, 33, 3, 50, "ofBoat # 3");
        new Edge(Edge.fleet()).within(0, 0, 7, 0, "ofBoat # 2");
        new Edge().beyond(new int[] {-1, 0, 1}, "ofBoat # 0");
    }

    static void promise10What0To7() {
        new Edge(Edge.port()).within(0, 4, 7, 4, "ofBoat 1 #");
        new Edge(Edge.port()).keeps(4, "ofBoat 1 0").keeps(7, "ofBoat 1 1").keeps(5, "ofBoat 1 2").keeps(94, "ofBoat 1 3")
            .keeps(10, "ofBoat 1 4").keeps(2, "ofBoat 1 5").keeps(4, "ofBoat 1 6").keeps(4, "ofBoat 1 7");
    }

    static void promise10DipsOfWhatLiesThereNow() {
        new Edge(Edge.port()).gives(10, "ofBoat 2 4").gives(5, "cell 9 1 30", "ofBoat 2 4").gives(4, "ofBoat 3 4")
            .gives(3, "cell 15 1 11", "ofBoat 3 4");
    }

    static void promise10DipsIsNoLessForWhatLacksOrForAFullBarrel() {
        one(0, 0).gives(5, "cell 6 1 0", "ofBoat 0 4").gives(5, "change 0 1 99", "ofBoat 0 4");
    }

    static void promise10GoesByThePlaceOfThisMinute() {
        one(0, 0, "list 5 4", "list 0 3").gives(3, "ofBoat 0 5").gives(4, "minutes 5", "ofBoat 0 5")
            .gives(3, "minutes 6", "ofBoat 0 5");
    }

    static void promise10GoesWhetherThereIsThatCellOrNot() {
        new Edge("boat 0 0", "list 0 1").gives(1, "ofBoat 0 5");
    }

    static void promise10LostWithoutATextInTheLightAlone() {
        one(4, 9, "change 0 1 2").gives(0, "minutes 13", "ofBoat 0 7").gives(5, "minutes 14", "ofBoat 0 7")
            .gives(5, "minutes 19", "ofBoat 0 7").gives(0, "minutes 20", "ofBoat 0 7");
    }

    static void promise10LostByATextHeldWithin0And99() {
        one(0, 0, "tape b*l-1", "text 1").gives(0, "change 0 1 0", "ofBoat 0 7").gives(0, "change 0 1 1", "ofBoat 0 7")
            .gives(1, "change 0 1 2", "ofBoat 0 7").gives(98, "change 0 1 99", "ofBoat 0 7");
        one(0, 0, "tape b+1", "text 1").gives(99, "change 0 1 98", "ofBoat 0 7").gives(99, "change 0 1 99", "ofBoat 0 7");
    }

    static void promise10LostByWhetherItIsLightNow() {
        one(0, 0, "tape h", "text 1").gives(0, "minutes 13", "ofBoat 0 7").gives(1, "minutes 14", "ofBoat 0 7")
            .gives(0, "minutes 20", "ofBoat 0 7");
    }

    // ---- promise 11

    static void promise11OnlyBoatsThatThereAre() {
        new Edge(Edge.port()).within(0, 6, 3, 15, "change # 0 1").within(0, 33, 3, 50, "change # 1 1");
        new Edge(Edge.fleet()).within(0, 0, 7, 0, "change # 0 1");
        new Edge().beyond(new int[] {-1, 0}, "change # 0 1");
    }

    static void promise11What0To1() {
        new Edge(Edge.port()).within(0, 15, 1, 50, "change 3 # 3");
    }

    static void promise11Cells0To15() {
        new Edge(Edge.port()).within(0, 15, 15, 15, "change 3 0 #").gives(0, "change 3 0 0", "ofBoat 3 2")
            .gives(15, "change 0 0 15", "ofBoat 0 2");
    }

    static void promise11Barrel0To99() {
        new Edge(Edge.port()).within(0, 50, 99, 50, "change 3 1 #").gives(50, "change 3 1 16")
            .gives(0, "change 3 1 0", "ofBoat 3 3").gives(99, "change 3 1 99", "ofBoat 3 3");
    }

    // ---- promise 12

    static void promise12OnlyBoatsThatThereAre() {
        new Edge(Edge.port()).within(0, 0, 3, 2, "become # 69");
        new Edge(Edge.fleet()).within(0, 0, 7, 0, "become # 10");
        new Edge().beyond(new int[] {-1, 0}, "become # 0");
    }

    static void promise12Kinds0To6WithM0To9() {
        new Edge(Edge.port()).within(0, 6, 69, 6, "become 2 #");
        new Edge(Edge.port()).gives(0, "become 2 0", "ofBoat 2 0").gives(0, "become 2 9", "ofBoat 2 0")
            .gives(9, "become 2 9", "ofBoat 2 1").gives(1, "become 2 10", "ofBoat 2 0")
            .gives(0, "become 1 10", "ofBoat 1 1")
            .gives(6, "become 1 69", "ofBoat 1 0").gives(9, "become 1 69", "ofBoat 1 1").gives(4, "become 1 69");
    }

    static void promise12CellAndBarrelStay() {
        new Edge(Edge.port()).gives(15, "become 3 69", "ofBoat 3 2").gives(50, "become 3 69", "ofBoat 3 3");
    }

    // ---- promise 13

    static void promise13OnlyBoatsThatThereAre() {
        new Edge(Edge.port()).within(0, 3, 3, 5, "as # 0").keeps(3, "as 0 0").keeps(7, "as 1 1");
        new Edge().beyond(new int[] {-1, 0}, "as # 0");
    }

    static void promise13Kinds0To6() {
        new Edge(Edge.port()).within(0, 0, 6, 0, "as 2 #");
    }

    static void promise13OfThatKindOrOfOneUnderIt() {
        for (int kind = 0; kind < 7; kind++) {
            for (int other = 0; other < 7; other++) {
                boolean is = false;
                for (int above : AS[kind]) {
                    is |= above == other;
                }
                if (is) {
                    one(kind, 8).keeps(8, "as 0 " + other);
                } else {
                    one(kind, 8).refuses(KIND, "as 0 " + other);
                }
            }
        }
    }

    static void promise13BeyondAheadOfKind() {
        new Edge(Edge.port()).refuses(BEYOND, "as 4 6").refuses(BEYOND, "as 0 7").refuses(KIND, "as 0 6");
    }

    static void promise13TheLeastAndTheGreatestM() {
        one(4, 0).gives(0, "as 0 1");
        one(4, 9).gives(9, "as 0 1");
    }
}
