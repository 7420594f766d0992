/** The boundaries of promises 17 and 18, and of a MINUTE and of draws as the terms tell them. */
public final class MinuteEdgesTest {
    private static final int STATE = Edge.STATE;

    public static void main(String[] args) {
        Edge.run(MinuteEdgesTest.class, 17, 18);
    }

    /** Nothing settles or is lost, it is dark always, and these calls behind that. */
    private static Edge still(String... calls) {
        return new Edge(Edge.and(Edge.still(), calls));
    }

    /** So many MINUTES, of which most in 165 calls. */
    private static String[] at(int minute) {
        return Edge.and(Edge.times(165, "minutes 60"), "minutes " + (minute - 9900));
    }

    // ---- terms: (1) what settles, what goes by light

    static void terms1SettlesUpTo99() {
        new Edge().gives(98, "cell 9 1 89", "minutes 1", "ofCell 9 1").gives(99, "cell 9 1 90", "minutes 1", "ofCell 9 1")
            .gives(99, "cell 9 1 91", "minutes 1", "ofCell 9 1").gives(99, "cell 9 1 99", "minutes 1", "ofCell 9 1")
            .gives(0, "cell 0 1 0", "minutes 1", "ofCell 0 1");
    }

    static void terms1SettlesByATextThatIsHeldItself() {
        new Edge("cell 3 1 50").gives(50, "tape 0-5", "text 0", "minutes 1", "ofCell 3 1")
            .gives(51, "tape 1", "text 0", "minutes 1", "ofCell 3 1")
            .gives(99, "tape 9999", "text 0", "minutes 1", "ofCell 3 1");
    }

    static void terms1ByLight7LessDownTo0() {
        Edge light = new Edge("dark 1", "minutes 1");
        light.gives(92, "cell 3 1 99", "minutes 1", "ofCell 3 1").gives(1, "cell 3 1 8", "minutes 1", "ofCell 3 1")
            .gives(0, "cell 3 1 7", "minutes 1", "ofCell 3 1").gives(0, "cell 3 1 6", "minutes 1", "ofCell 3 1")
            .gives(0, "cell 3 1 0", "minutes 1", "ofCell 3 1");
    }

    static void terms1ByLightNoTextIsAsked() {
        new Edge("tape 50", "text 0", "dark 1", "minutes 1").gives(3, "cell 3 1 10", "minutes 1", "ofCell 3 1");
    }

    static void terms1FromDarkToLightAndBack() {
        String[] one = {"cell 9 1 50", "minutes 1"};
        new Edge(Edge.and(new String[] {"minutes 13"}, one)).gives(59, "ofCell 9 1");
        new Edge(Edge.and(new String[] {"minutes 14"}, one)).gives(43, "ofCell 9 1");
        new Edge(Edge.and(new String[] {"minutes 19"}, one)).gives(43, "ofCell 9 1");
        new Edge(Edge.and(new String[] {"minutes 20"}, one)).gives(59, "ofCell 9 1");
    }

    // ---- terms: (2) what comes into a BARREL

    static void terms1NoMoreThanLiesThere() {
        Edge boat = still("boat 0 5");
        boat.gives(0, "cell 5 1 0", "minutes 1").gives(4, "cell 5 1 4", "minutes 1").gives(5, "cell 5 1 5", "minutes 1")
            .gives(5, "cell 5 1 6", "minutes 1").gives(0, "cell 5 1 4", "minutes 1", "ofCell 5 1")
            .gives(0, "cell 5 1 5", "minutes 1", "ofCell 5 1").gives(1, "cell 5 1 6", "minutes 1", "ofCell 5 1");
        still("boat 52 5").gives(1, "cell 5 1 1", "minutes 1").gives(2, "cell 5 1 2", "minutes 1")
            .gives(3, "cell 5 1 3", "minutes 1");
    }

    static void terms1NoMoreThanThereIsRoomFor() {
        Edge boat = still("boat 0 5", "cell 5 1 40");
        int[][] rows = {{93, 98, 35}, {94, 99, 35}, {95, 99, 36}, {98, 99, 39}, {99, 99, 40}};
        for (int[] row : rows) {
            boat.gives(row[1], "change 0 1 " + row[0], "minutes 1")
                .gives(row[2], "change 0 1 " + row[0], "minutes 1", "ofCell 5 1");
        }
        Edge punt = still("boat 20 5", "cell 5 1 99");
        punt.gives(99, "change 0 1 66", "minutes 1").gives(66, "change 0 1 66", "minutes 1", "ofCell 5 1")
            .gives(99, "change 0 1 67", "minutes 1").gives(67, "change 0 1 67", "minutes 1", "ofCell 5 1");
    }

    static void terms1TheLesserNumberDipsFirst() {
        still("boat 0 5", "boat 0 5").gives(5, "cell 5 1 8", "minutes 1", "ofBoat 0 3")
            .gives(3, "cell 5 1 8", "minutes 1", "ofBoat 1 3").gives(0, "cell 5 1 5", "minutes 1", "ofBoat 1 3");
    }

    static void terms1EachDipsOfWhatIsLeft() {
        still("boat 0 5", "boat 30 5").gives(5, "cell 5 1 35", "minutes 1", "ofBoat 1 3")
            .gives(10, "cell 5 1 36", "minutes 1", "ofBoat 1 3");
        still("boat 0 5", "boat 20 5").gives(0, "cell 5 1 7", "minutes 1", "ofBoat 1 3")
            .gives(1, "cell 5 1 8", "minutes 1", "ofBoat 1 3");
    }

    static void terms1DipsBehindWhatSettledOrWent() {
        new Edge("boat 30 5").gives(5, "cell 5 1 25", "minutes 1").gives(10, "cell 5 1 26", "minutes 1");
        new Edge("boat 30 5", "tape 0", "text 1", "dark 1", "minutes 1", "change 0 1 0")
            .gives(5, "cell 5 1 37", "minutes 1")
            .gives(10, "cell 5 1 38", "minutes 1").gives(0, "cell 5 1 7", "minutes 1")
            .gives(1, "cell 5 1 8", "minutes 1");
    }

    // ---- terms: (3) where it goes

    static void terms1FromEachCellByEachWay() {
        int[][] to = {
            {0, 1, 2, 3, 4, 5, 6, 7, 8, 9, 10, 11, 12, 13, 14, 15},
            {0, 1, 2, 3, 0, 1, 2, 3, 4, 5, 6, 7, 8, 9, 10, 11},
            {1, 2, 3, 3, 5, 6, 7, 7, 9, 10, 11, 11, 13, 14, 15, 15},
            {4, 5, 6, 7, 8, 9, 10, 11, 12, 13, 14, 15, 12, 13, 14, 15},
            {0, 0, 1, 2, 4, 4, 5, 6, 8, 8, 9, 10, 12, 12, 13, 14}};
        for (int way = 0; way < 5; way++) {
            for (int cell = 0; cell < 16; cell++) {
                new Edge("list 0 " + way, "boat 0 " + cell, "minutes 1").gives(to[way][cell], "ofBoat 0 2");
            }
        }
    }

    static void terms1AtTheEdgeByItsOwnWay() {
        new Edge("list 0 1").gives(12, "boat 10 12", "minutes 1", "ofBoat 0 2")
            .gives(12, "boat 10 8", "minutes 1", "ofBoat 0 2")
            .gives(3, "boat 30 3", "minutes 1", "ofBoat 0 2").gives(3, "boat 30 2", "minutes 1", "ofBoat 0 2");
        new Edge().gives(4, "boat 64 4", "minutes 1", "ofBoat 0 2").gives(4, "boat 69 5", "minutes 1", "ofBoat 0 2")
            .gives(5, "boat 65 5", "minutes 1", "ofBoat 0 2").gives(3, "boat 66 7", "minutes 1", "ofBoat 0 2");
    }

    static void terms1AllDipBeforeOneGoes() {
        still("boat 0 5", "boat 0 6", "list 0 2", "cell 6 1 5").gives(0, "minutes 1", "ofBoat 0 3")
            .gives(5, "minutes 1", "ofBoat 1 3").gives(6, "minutes 1", "ofBoat 0 2").gives(7, "minutes 1", "ofBoat 1 2");
    }

    static void terms1ByThePlaceOfThatMinute() {
        new Edge("boat 0 5", "list 5 1", "list 0 3").gives(5, "minutes 6", "ofBoat 0 2")
            .gives(9, "minutes 5", "ofBoat 0 2")
            .gives(9, "minutes 7", "ofBoat 0 2");
        new Edge("boat 20 5", "list 0 2", "list 1 2").gives(6, "minutes 1", "ofBoat 0 2")
            .gives(6, "minutes 2", "ofBoat 0 2");
    }

    // ---- terms: (4) what is lost

    static void terms1ABarrelHas0AtLeast() {
        Edge five = new Edge("tape 0", "text 0", "tape 5", "text 1", "boat 0 0");
        five.gives(0, "change 0 1 0", "minutes 1").gives(0, "change 0 1 4", "minutes 1")
            .gives(0, "change 0 1 5", "minutes 1")
            .gives(1, "change 0 1 6", "minutes 1").gives(94, "change 0 1 99", "minutes 1");
        new Edge("tape 9999", "text 1", "boat 0 0").gives(0, "change 0 1 99", "minutes 1");
        new Edge("tape 0-9", "text 1", "boat 0 0").gives(99, "change 0 1 99", "minutes 1");
    }

    static void terms1LeaksInTheLightAlone() {
        for (int[] row : new int[][] {{13, 50}, {14, 49}, {19, 49}, {20, 50}}) {
            new Edge("tape 0", "text 0", "boat 0 0", "minutes " + row[0]).gives(row[1], "change 0 1 50", "minutes 1");
        }
        new Edge("boat 0 0", "dark 1", "minutes 1").gives(0, "change 0 1 1", "minutes 1")
            .gives(0, "change 0 1 0", "minutes 1")
            .gives(1, "change 0 1 2", "minutes 1");
    }

    static void terms1LostByWhatIsInTheBarrelThen() {
        new Edge("tape 0", "text 0", "tape b/2", "text 1", "boat 0 5", "cell 5 1 5").gives(3, "minutes 1")
            .gives(0, "cell 5 1 0", "change 0 1 0", "minutes 1").gives(1, "cell 5 1 1", "minutes 1");
    }

    static void terms1MinuteIsOneMore() {
        new Edge().gives(1, "minutes 1", "count 1").gives(60, "minutes 60", "count 1").gives(1, "loose 1", "count 1");
    }

    // ---- promise 17

    static void promise17OneTo60() {
        new Edge(Edge.oneByOne()).within(1, 1, 60, 60, "minutes #");
        new Edge(Edge.port()).gives(196, "minutes 1").gives(214, "minutes 2").beyond(new int[] {0, -1, 61}, "minutes #");
    }

    static void promise17MinuteUpTo9999() {
        new Edge(at(9939)).gives(9999, "minutes 60", "count 1").gives(0, "minutes 60", "told 3");
        new Edge(at(9940)).refuses(STATE, "minutes 60").gives(9999, "minutes 59", "count 1");
        new Edge(at(9960)).gives(9999, "minutes 39", "count 1").refuses(STATE, "minutes 40");
        new Edge(Edge.latePort()).refuses(STATE, "minutes 1").refuses(STATE, "minutes 60");
    }

    static void promise17BeyondAheadOfState() {
        new Edge(Edge.late()).beyond(new int[] {0, -1, 61}, "minutes #");
    }

    static void promise17WithoutBoatsHadIs0() {
        new Edge().gives(0, "minutes 1").gives(0, "minutes 60").gives(60, "minutes 1", "count 3");
    }

    static void promise17HadIs792AtMost() {
        String[] full = new String[8];
        for (int boat = 0; boat < 8; boat++) {
            full[boat] = "change " + boat + " 1 99";
        }
        new Edge(Edge.and(Edge.and(Edge.fleet(), full), "cell 0 1 99")).gives(792, "minutes 1")
            .gives(99, "minutes 1", "ofCell 0 1")
            .gives(792, "change 3 1 98", "minutes 1").gives(98, "change 3 1 98", "minutes 1", "ofCell 0 1");
    }

    // ---- promise 18

    static void promise18OneTo40() {
        new Edge().within(1, 0, 40, 0, "loose #").gives(1, "loose 1", "count 1").gives(40, "loose 40", "count 1");
        new Edge(Edge.port()).beyond(new int[] {0, -1, 41}, "loose #");
    }

    static void promise18MinuteUpTo9999() {
        new Edge(at(9959)).gives(9999, "loose 40", "count 1").gives(0, "loose 40", "told 3");
        new Edge(at(9960)).refuses(STATE, "loose 40").gives(9999, "loose 39", "count 1");
        new Edge(Edge.latePort()).refuses(STATE, "loose 1").refuses(STATE, "loose 40");
    }

    static void promise18BeyondAheadOfState() {
        new Edge(Edge.late()).beyond(new int[] {0, -1, 41}, "loose #");
    }

    static void promise18TheSeedIsDrawnFrom1AtFirst() {
        new Edge().gives(-1770082073, "loose 1", "count 10").gives(-1770082073, "seed 1", "loose 1", "count 10");
    }

    /** These seeds give a first z of 0, 255, 256, 1024, 1280; its quotient by 256 is 0, 0, 1, 4, 5. */
    static void promise18TheWayIsTheRestBy5() {
        int[][] rows = {{-59267453, 0}, {-945217506, 0}, {-1235022973, 1}, {-467322237, 4}, {-1643077757, 0}};
        for (int[] row : rows) {
            new Edge("list 0 2").gives(row[1], "seed " + row[0], "loose 1", "ofList 0");
        }
    }

    /** A first z that is the least int, -1 or the greatest: its signs count as a number's, so no draw is below 0. */
    static void promise18DrawsAreNotBelow0() {
        new Edge("list 0 1").gives(3, "seed 2088216195", "loose 1", "ofList 0")
            .gives(0, "seed 230538014", "loose 1", "ofList 0")
            .gives(2, "seed -1916945634", "loose 1", "ofList 0");
        still("cell 0 1 50", "cell 15 1 50", "cell 1 1 50").gives(0, "seed -1346043047", "loose 1", "ofCell 15 1")
            .gives(-1, "seed -1346043047", "loose 1", "count 10").gives(0, "seed 204577074", "loose 1", "ofCell 0 1")
            .gives(Integer.MIN_VALUE, "seed 204577074", "loose 1", "count 10")
            .gives(0, "seed 2026336818", "loose 1", "ofCell 1 1");
    }

    /** These seeds give a second z of 3840 and of 4096: 15 and 16 by 256. */
    static void promise18TheCellIsTheRestBy16() {
        Edge lying = still("cell 0 1 50", "cell 1 1 50", "cell 14 1 50", "cell 15 1 50");
        lying.gives(0, "seed -386314190", "loose 1", "ofCell 15 1").gives(50, "seed -386314190", "loose 1", "ofCell 0 1")
            .gives(50, "seed -386314190", "loose 1", "ofCell 14 1").gives(0, "seed 1435445554", "loose 1", "ofCell 0 1")
            .gives(50, "seed 1435445554", "loose 1", "ofCell 15 1").gives(50, "seed 1435445554", "loose 1", "ofCell 1 1");
    }

    static void promise18TheWayCountsInThatMinute() {
        new Edge("boat 0 5").gives(4, "seed -467322237", "loose 1", "ofBoat 0 2")
            .gives(1, "seed -1235022973", "loose 1", "ofBoat 0 2");
    }

    static void promise18NoStuffLiesThereBeforeItSettles() {
        new Edge("cell 15 1 50", "boat 0 15").gives(5, "seed -386314190", "loose 1")
            .gives(0, "seed -386314190", "loose 1", "ofCell 15 1");
        new Edge("cell 15 1 50", "cell 15 0 3").gives(3, "seed -386314190", "loose 1", "ofCell 15 1");
    }

    /** From seed 1 the WAYS are 4, 1, 2, 0, 3, 4 and 3; the seventh MINUTE has place 0 again. */
    static void promise18ThePlaceOfEachMinuteGoesRoundBy6() {
        Edge ones = new Edge("list 0 1", "list 1 2", "list 2 1", "list 3 1", "list 4 1", "list 5 1");
        int[] ways = {4, 1, 2, 0, 3, 4};
        for (int place = 0; place < 6; place++) {
            ones.gives(ways[place], "loose 6", "ofList " + place)
                .gives(place == 0 ? 3 : ways[place], "loose 7", "ofList " + place);
        }
        ones.gives(2, "loose 1", "ofList 1").gives(1, "loose 5", "ofList 5").gives(4, "minutes 5", "loose 1", "ofList 5")
            .gives(1, "minutes 5", "loose 1", "ofList 0").gives(4, "minutes 6", "loose 1", "ofList 0");
    }
}
