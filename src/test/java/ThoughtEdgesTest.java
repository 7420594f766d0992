/** The boundaries of promises 19 to 31: what would be, which is only thought. */
public final class ThoughtEdgesTest {
    private static final int BEYOND = Edge.BEYOND;
    private static final int NONE = Edge.NONE;

    public static void main(String[] args) {
        Edge.run(ThoughtEdgesTest.class, 19, 31);
    }

    private static Edge oneByOne(String... calls) {
        return new Edge(Edge.and(Edge.oneByOne(), calls));
    }

    /** Nothing settles or is lost, it is dark always, and these calls behind that. */
    private static Edge still(String... calls) {
        return new Edge(Edge.and(Edge.still(), calls));
    }

    /** Eight BOATS with 99 each. */
    private static String[] fullFleet() {
        String[] calls = Edge.fleet();
        for (int boat = 0; boat < 8; boat++) {
            calls = Edge.and(calls, "change " + boat + " 1 99");
        }
        return calls;
    }

    /** A BOAT on CELL 5 in MINUTE 9999 (its place is 3, the next one's 4); no STUFF lies or settles, and it is dark. */
    private static Edge late(String... calls) {
        String[] calm = {"dark 20", "tape 0", "text 0", "tape 0", "text 1", "become 0 0", "change 0 0 5", "change 0 1 0",
            "sheet 3 8 16", "lies 3"};
        return new Edge(Edge.and(Edge.and(Edge.late(), calm), calls));
    }

    // ---- promise 19

    static void promise19Behind0To60() {
        oneByOne().within(0, 0, 60, 60, "then # 0").within(0, 0, 60, 900, "then # 1");
        new Edge(Edge.port()).beyond(new int[] {-1, 61}, "then # 0");
    }

    static void promise19What0To1() {
        oneByOne().within(0, 60, 1, 900, "then 60 #");
        new Edge(Edge.port()).beyond(new int[] {-1, 2}, "then 0 #");
    }

    static void promise19Behind0IsNow() {
        new Edge(Edge.port()).keeps(177, "then 0 0").keeps(380, "then 0 1");
        new Edge().keeps(0, "then 0 0").keeps(0, "then 60 0");
    }

    static void promise19OnlyThought() {
        new Edge(Edge.port()).keeps(196, "then 1 0").keeps(214, "then 2 0");
    }

    static void promise19MinuteBeyond9999() {
        Edge late = new Edge(Edge.and(Edge.late(), "change 0 0 4", "change 0 1 0", "cell 4 1 99"));
        // By light 92, of which a PUNT dips 30; then it is dark: 66, of which it dips 22.
        late.keeps(0, "then 0 0").keeps(30, "then 1 0").keeps(52, "then 2 0").gives(9999, "then 60 0", "count 1");
        late("cell 5 1 99").keeps(99, "then 20 0").keeps(99, "then 60 0").keeps(95, "then 19 0");
    }

    // ---- promise 20

    static void promise20OnlyBoatsThatThereAre() {
        new Edge(Edge.port()).within(0, 33, 3, 50, "on # 0 1").within(0, 6, 3, 15, "on # 0 0");
        new Edge(Edge.fleet()).within(0, 0, 7, 0, "on # 0 0");
        new Edge().beyond(new int[] {-1, 0}, "on # 0 0");
    }

    static void promise20Behind0To60() {
        oneByOne().within(0, 0, 60, 60, "on 0 # 1").within(0, 10, 60, 10, "on 0 # 0");
        new Edge(Edge.port()).beyond(new int[] {-1, 61}, "on 0 # 0");
    }

    static void promise20What0To1() {
        oneByOne().within(0, 10, 1, 60, "on 0 60 #");
        new Edge(Edge.port()).beyond(new int[] {-1, 2}, "on 0 0 #");
    }

    static void promise20OnlyThought() {
        new Edge(Edge.port()).keeps(7, "on 0 1 0").keeps(37, "on 0 1 1").keeps(95, "on 1 1 1").keeps(8, "on 2 1 1")
            .keeps(56, "on 3 1 1").keeps(15, "on 3 1 0");
    }

    static void promise20MinuteBeyond9999() {
        late("list 3 2", "list 4 3").keeps(5, "on 0 0 0").keeps(6, "on 0 1 0").keeps(10, "on 0 2 0");
        // A PUNT goes in MINUTE 10000, which is even, and not in 9999.
        late("become 0 20", "list 3 2", "list 4 3").keeps(5, "on 0 1 0").keeps(9, "on 0 2 0");
    }

    // ---- promise 21

    static void promise21OnlyBoatsThatThereAre() {
        new Edge(Edge.port()).within(0, 0, 3, 0, "full # 0");
        new Edge().beyond(new int[] {-1, 0}, "full # 0");
    }

    static void promise21By0To99() {
        oneByOne("change 0 1 39").within(0, 0, 99, 60, "full 0 #");
        new Edge(Edge.port()).beyond(new int[] {-1, 100}, "full 0 #");
    }

    static void promise21By60OrNone() {
        oneByOne().keeps(1, "full 0 1").keeps(59, "full 0 59").keeps(60, "full 0 60").refuses(NONE, "full 0 61")
            .refuses(NONE, "full 0 99");
        oneByOne("change 0 1 38").keeps(60, "full 0 98").refuses(NONE, "full 0 99");
        new Edge(Edge.port()).refuses(NONE, "dark 1", "full 2 99");
    }

    static void promise21ItHasSoMuchNow() {
        new Edge(Edge.port()).keeps(0, "full 0 33").keeps(1, "full 0 34").keeps(0, "full 0 0").keeps(0, "full 2 0");
    }

    static void promise21TheFirst() {
        // 1, 2, and then all three are lost, again and again.
        oneByOne("tape b*(b=3)", "text 1").gives(2, "full 0 2").refuses(NONE, "full 0 3");
    }

    static void promise21MinuteBeyond9999() {
        late("cell 5 1 99").keeps(1, "full 0 5").keeps(2, "full 0 6").keeps(20, "full 0 99");
        late().refuses(NONE, "full 0 1");
    }

    // ---- promise 22

    static void promise22Places0To5() {
        still("boat 0 5", "cell 6 1 5", "cell 9 1 5").within(0, 2, 5, 0, "wayFor # 2");
        new Edge(Edge.port()).beyond(new int[] {-1, 6}, "wayFor # 0");
    }

    static void promise22Behind0To60() {
        still("boat 0 5", "cell 6 1 5", "cell 9 1 5").within(0, 0, 60, 2, "wayFor 0 #").gives(0, "wayFor 0 1")
            .gives(2, "wayFor 0 2");
        new Edge(Edge.port()).beyond(new int[] {-1, 61}, "wayFor 0 #").keeps(0, "wayFor 0 0");
    }

    static void promise22OfSeveralTheLeast() {
        Edge boat = still("boat 0 5");
        boat.keeps(0, "wayFor 0 9").keeps(1, "cell 1 1 5", "cell 4 1 5", "wayFor 0 2")
            .keeps(2, "cell 6 1 5", "cell 4 1 5", "wayFor 0 2")
            .keeps(3, "cell 9 1 5", "cell 4 1 5", "wayFor 0 2").keeps(4, "cell 9 1 4", "cell 4 1 5", "wayFor 0 2")
            .keeps(0, "cell 5 1 10", "cell 4 1 5", "wayFor 0 2").keeps(0, "list 0 4", "wayFor 0 2");
        new Edge().gives(0, "wayFor 0 60").gives(0, "wayFor 5 60");
    }

    static void promise22ThePlaceComesOrDoesNot() {
        Edge boat = still("boat 0 5", "cell 4 1 5");
        boat.gives(0, "wayFor 1 2").gives(4, "wayFor 1 3").gives(0, "wayFor 5 6").gives(4, "wayFor 5 7")
            .gives(0, "minutes 1", "wayFor 0 6").gives(4, "minutes 1", "wayFor 0 7");
    }

    static void promise22MinuteBeyond9999() {
        late("cell 6 1 5").keeps(2, "wayFor 3 2").keeps(0, "wayFor 4 2").keeps(2, "wayFor 4 3");
    }

    // ---- promise 23

    static void promise23OnlyBoatsThatThereAre() {
        new Edge(Edge.port()).within(0, 0, 3, 0, "cellFor # 0");
        new Edge().beyond(new int[] {-1, 0}, "cellFor # 0");
    }

    static void promise23Behind0To60() {
        still("boat 0 5", "cell 6 1 5", "cell 9 1 5").within(0, 0, 60, 6, "cellFor 0 #").gives(6, "cellFor 0 1");
        new Edge(Edge.port()).beyond(new int[] {-1, 61}, "cellFor 0 #").keeps(0, "cellFor 0 0");
    }

    static void promise23OfSeveralTheLeast() {
        Edge boat = still("boat 0 5");
        boat.keeps(0, "cellFor 0 5").keeps(9, "cell 9 1 5", "cell 15 1 6", "cellFor 0 1")
            .keeps(15, "cell 9 1 5", "cell 15 1 6", "cellFor 0 2")
            .keeps(0, "cell 0 1 5", "cell 15 1 5", "cellFor 0 2").keeps(0, "cell 15 1 50", "change 0 1 99", "cellFor 0 2")
            .keeps(15, "cell 15 1 50", "change 0 1 98", "cellFor 0 2");
    }

    static void promise23TheOthersStayWhereTheyAre() {
        // BOAT 0 takes what lies on CELL 9 first, wherever BOAT 1 is.
        still("boat 0 9", "boat 0 5", "cell 9 1 5", "cell 14 1 1").gives(14, "cellFor 1 1").gives(0, "cellFor 0 0")
            .gives(9, "cellFor 0 1");
    }

    static void promise23MinuteBeyond9999() {
        late("cell 6 1 5").keeps(6, "cellFor 0 1").keeps(6, "cellFor 0 60").keeps(0, "cellFor 0 0");
    }

    // ---- promise 24

    static void promise24OnlyBoatsThatThereAre() {
        new Edge(Edge.port()).within(0, 0, 3, 0, "kindFor # 0");
        new Edge().beyond(new int[] {-1, 0}, "kindFor # 0");
    }

    static void promise24Behind0To60() {
        // As a GHOST with m 2 it goes to CELL 6, and so has the 5 there, too.
        still("boat 2 5", "cell 5 1 5", "cell 6 1 5").within(0, 0, 60, 6, "kindFor 0 #").gives(0, "kindFor 0 1")
            .gives(6, "kindFor 0 2");
        new Edge(Edge.port()).beyond(new int[] {-1, 61}, "kindFor 0 #").keeps(0, "kindFor 0 0");
    }

    static void promise24OfSeveralTheLeast() {
        still("boat 69 5").keeps(0, "kindFor 0 1").keeps(0, "cell 5 1 5", "become 0 62", "kindFor 0 1");
        still("boat 9 5", "cell 5 1 60").keeps(2, "kindFor 0 1");
        still("boat 8 5", "cell 5 1 60").keeps(5, "kindFor 0 1");
        still("boat 2 5", "cell 5 1 31").keeps(5, "kindFor 0 1").keeps(2, "become 0 60", "kindFor 0 1");
        // Where only those go that turn 1 into 3, or into 2.
        still("boat 60 5", "list 0 1").keeps(1, "cell 9 1 3", "kindFor 0 2").keeps(3, "cell 6 1 5", "kindFor 0 2");
    }

    static void promise24MinuteBeyond9999() {
        late("cell 5 1 60").keeps(2, "kindFor 0 1").keeps(0, "kindFor 0 0");
    }

    // ---- promise 25

    static void promise25OnlyBoatsThatThereAre() {
        new Edge(Edge.port()).within(0, 1, 3, 1, "route # 0 0").within(0, 177, 3, 177, "route # 0 1");
        new Edge().beyond(new int[] {-1, 0}, "route # 0 0");
    }

    static void promise25Rows0To4() {
        Edge row = still("boat 0 7", "cell 6 1 5", "cell 5 1 5", "cell 4 1 5");
        row.within(0, 1, 4, 14440, "route 0 # 0").within(0, 0, 4, 15, "route 0 # 1").gives(10, "route 0 1 0")
            .gives(140, "route 0 2 0")
            .gives(1440, "route 0 3 0").gives(0, "route 0 1 1").gives(5, "route 0 2 1").gives(10, "route 0 3 1");
        new Edge(Edge.port()).beyond(new int[] {-1, 5}, "route 0 # 0");
    }

    static void promise25What0To1() {
        still("boat 0 7", "cell 6 1 5").within(0, 140, 1, 5, "route 0 2 #");
        new Edge(Edge.port()).beyond(new int[] {-1, 2}, "route 0 0 #").keeps(1, "route 0 0 0").keeps(177, "route 0 0 1")
            .keeps(10, "route 0 1 0").keeps(196, "route 0 1 1");
    }

    static void promise25OfSeveralTheFirstAsARow() {
        still("boat 0 5").keeps(10000, "route 0 4 0").keeps(110, "cell 1 1 5", "cell 4 1 5", "route 0 2 0")
            .keeps(1010, "cell 1 1 5", "cell 4 1 5", "route 0 3 0")
            .keeps(11340, "cell 1 1 5", "cell 4 1 5", "route 0 4 0")
            .keeps(13300, "cell 9 1 5", "cell 13 1 10", "route 0 4 0")
            .keeps(12340, "cell 6 1 5", "cell 10 1 5", "cell 9 1 5", "route 0 4 0");
    }

    static void promise25AtTheEdgeItStays() {
        // From CELL 0 the ways 1 and 4 lead nowhere.
        still("boat 0 0", "cell 0 1 15").keeps(1000, "route 0 3 0").keeps(15, "route 0 3 1");
        still("boat 0 15", "cell 14 1 5").keeps(140, "route 0 2 0").keeps(1040, "route 0 3 0");
    }

    static void promise25WhateverItGoes() {
        still("boat 10 5", "cell 1 1 3", "list 0 3").keeps(110, "route 0 2 0").keeps(3, "route 0 2 1");
        still("boat 20 5", "cell 1 1 15", "minutes 1").keeps(110, "route 0 2 0").keeps(5, "route 0 2 1");
        still("boat 60 5", "cell 1 1 3", "list 0 2").keeps(110, "route 0 2 0");
        still("boat 64 5", "cell 5 1 10").keeps(100, "route 0 2 0").keeps(10, "route 0 2 1");
    }

    static void promise25TheOthersGoOnAsTheyDo() {
        // BOAT 1 goes up to CELL 1 by THE LIST; a second one to share with would not be better.
        still("boat 0 4", "boat 0 5", "list 0 1", "cell 1 1 5").keeps(100, "route 0 2 0").keeps(5, "route 0 2 1")
            .keeps(110, "cell 0 1 5", "route 0 2 0").keeps(10, "cell 0 1 5", "route 0 2 1");
    }

    static void promise25MinuteBeyond9999() {
        late("cell 6 1 5", "cell 7 1 5").keeps(120, "route 0 2 0").keeps(1220, "route 0 3 0").keeps(10, "route 0 3 1")
            .keeps(10220, "route 0 4 0");
    }

    // ---- promise 26

    static void promise26Behind0To60() {
        new Edge(Edge.port()).within(0, 1, 60, 1, "darkFor # 0");
        oneByOne().within(0, 1, 60, 1, "darkFor # 0").keeps(20, "darkFor 60 60").refuses(NONE, "darkFor 60 61")
            .keeps(19, "darkFor 60 57")
            .keeps(20, "darkFor 60 58");
    }

    static void promise26Had0To792() {
        new Edge(fullFleet()).within(0, 1, 792, 1, "darkFor 0 #").refuses(NONE, "change 4 1 98", "darkFor 0 792")
            .gives(1, "change 4 1 98", "darkFor 0 791");
        new Edge(Edge.port()).beyond(new int[] {-1, 793}, "darkFor 0 #").refuses(NONE, "darkFor 0 792")
            .keeps(1, "darkFor 0 177").refuses(NONE, "darkFor 0 178");
    }

    static void promise26TheLeastFrom1To20OrNone() {
        Edge boat = oneByOne();
        for (int v = 0; v <= 20; v++) {
            boat.gives(Math.max(1, v), "darkFor 20 " + v);
        }
        boat.refuses(NONE, "darkFor 20 21").keeps(20, "darkFor 20 20").keeps(1, "darkFor 20 1");
    }

    static void promise26BeyondAheadOfNone() {
        new Edge(Edge.port()).refuses(BEYOND, "darkFor 61 792").refuses(BEYOND, "darkFor -1 792")
            .refuses(BEYOND, "darkFor 0 793");
    }

    static void promise26MinuteBeyond9999() {
        // MINUTE 9999 is the last of twenty, so that it is dark with DARK 20 alone; 10000 is the first.
        late("cell 5 1 5").keeps(20, "darkFor 1 1").refuses(NONE, "darkFor 1 6");
        late("cell 5 1 12").keeps(1, "darkFor 1 5").keeps(20, "darkFor 2 6").keeps(20, "darkFor 60 12");
        late("tape 1", "text 0").keeps(20, "darkFor 1 1").keeps(1, "darkFor 2 1").keeps(20, "darkFor 2 2")
            .keeps(2, "darkFor 3 2");
    }

    // ---- promise 27

    static void promise27WhatFromLess1To5() {
        new Edge(Edge.port()).within(-1, 156, 5, 1, "match #").keeps(0, "match 0").keeps(2, "match 1").keeps(3, "match 2")
            .keeps(8, "match 3").keeps(8, "match 4").keeps(156, "match -1");
    }

    static void promise27NoBoatsAndNoWants() {
        Edge none = new Edge();
        none.gives(0, "match -1");
        for (int wearer = 0; wearer < 6; wearer++) {
            none.gives(8, "match " + wearer);
        }
    }

    static void promise27EightBoatsToSixWearers() {
        Edge fleet = new Edge(fullFleet());
        fleet.gives(60, "match -1");
        for (int wearer = 0; wearer < 6; wearer++) {
            fleet.gives(wearer, "match " + wearer);
        }
        new Edge(Edge.and(fullFleet(), "wants 0 99", "wants 1 99", "wants 2 99", "wants 3 99", "wants 4 99",
            "wants 5 99"))
            .gives(594, "match -1").gives(7, "change 5 1 98", "change 6 1 98", "match 5")
            .gives(593, "change 5 1 98", "change 6 1 98",
                "change 7 1 97", "match -1");
    }

    static void promise27FewerBoatsThanWearers() {
        Edge two = new Edge("boat 0 0", "boat 0 0", "change 0 1 9", "change 1 1 9");
        two.gives(18, "match -1").gives(0, "match 0").gives(1, "match 1").gives(8, "match 2").gives(8, "match 5")
            .gives(1, "wants 0 0", "match 2").gives(8, "wants 0 0", "match 0");
    }

    static void promise27TheLesserOfBoth() {
        Edge one = new Edge("boat 0 0");
        one.gives(0, "change 0 1 0", "match -1").gives(9, "change 0 1 9", "match -1")
            .gives(10, "change 0 1 10", "match -1")
            .gives(10, "change 0 1 11", "match -1").gives(11, "change 0 1 11", "wants 5 11", "match -1")
            .gives(0, "change 0 1 11", "wants 5 11", "match 5").gives(8, "change 0 1 11", "wants 5 11", "match 0");
    }

    static void promise27OfSeveralTheFirstNoneCountingAs8() {
        // Nothing is served by an empty BARREL, yet a BOAT is ahead of none.
        Edge empty = new Edge("boat 0 0", "boat 0 0");
        empty.gives(0, "match 0").gives(1, "match 1").gives(8, "match 2").gives(0, "match -1");
        Edge alike = new Edge("boat 0 0", "boat 0 0", "boat 0 0", "change 0 1 5", "change 1 1 5", "change 2 1 50",
            "wants 3 50");
        alike.gives(60, "match -1").gives(0, "match 0").gives(1, "match 1").gives(8, "match 2").gives(2, "match 3");
    }

    static void promise27TheBestIsNotTheFirstBestOfEach() {
        // WEARER 0 has no need of the greater BARREL, which WEARER 1 needs.
        Edge two = new Edge("boat 0 0", "boat 0 0", "change 0 1 30", "change 1 1 10", "wants 1 30");
        two.gives(40, "match -1").gives(1, "match 0").gives(0, "match 1");
    }

    // ---- promise 28

    static void promise28By0To198() {
        new Edge(Edge.port()).within(0, 2, 198, 13, "blend #").keeps(2, "blend 0").keeps(13, "blend 198");
    }

    static void promise28FewerThanTwo() {
        new Edge().refuses(NONE, "blend 0").refuses(NONE, "blend 198");
        new Edge(Edge.lonePort()).refuses(NONE, "blend 0").refuses(NONE, "blend 198");
        new Edge("boat 0 0", "boat 0 0").keeps(1, "blend 0").keeps(1, "blend 198");
    }

    static void promise28BeyondAheadOfNone() {
        new Edge().beyond(new int[] {-1, 199}, "blend #");
        new Edge("boat 0 0").beyond(new int[] {-1, 199}, "blend #");
    }

    static void promise28OfSeveralTheFirst() {
        new Edge(fullFleet()).gives(1, "blend 198").gives(67, "change 6 1 0", "change 7 1 0", "blend 0")
            .gives(56, "change 5 1 0", "change 6 1 0", "change 7 1 0", "blend 0");
        Edge four = new Edge("boat 0 0", "boat 0 0", "boat 0 0", "boat 0 0", "change 0 1 10", "change 1 1 20",
            "change 2 1 32", "change 3 1 99");
        four.gives(1, "blend 30").gives(1, "blend 36").gives(2, "blend 37").gives(1, "blend 35").gives(2, "blend 42")
            .gives(2, "blend 47")
            .gives(12, "blend 48").gives(12, "blend 52");
    }

    static void promise28LessAndMoreApartAlike() {
        // 10 and 20 are 6 less than 36, 10 and 32 are 6 more: the first; so, too, where the first is more.
        new Edge("boat 0 0", "boat 0 0", "boat 0 0", "change 0 1 10", "change 1 1 32", "change 2 1 20")
            .gives(1, "blend 36")
            .gives(2, "blend 35");
    }

    // ---- promise 29

    static void promise29Sheets0To3() {
        new Edge(Edge.port()).beyond(new int[] {-1, 4}, "which # 0").keeps(0, "which 0 0").keeps(127, "which 2 0");
        new Edge("boat 0 5", "sheet 0 8 0", "sheet 3 8 0").within(0, 127, 3, 127, "which # 0");
    }

    static void promise29OnlyBoatsThatThereAre() {
        new Edge(Edge.port()).within(0, 127, 3, 127, "which 2 #");
        new Edge("sheet 0 8 0").beyond(new int[] {-1, 0}, "which 0 #");
    }

    static void promise29ASheetThatIsMissing() {
        new Edge(Edge.port()).refuses(NONE, "which 3 0").refuses(NONE, "sheet 2 0 0", "which 2 0");
    }

    static void promise29BeyondAheadOfNone() {
        new Edge(Edge.port()).beyond(new int[] {-1, 4}, "which 3 #");
    }

    static void promise29NoNumbersToForty() {
        String[] rows = {"sheet 0 8 40"};
        for (int i = 0; i < 40; i++) {
            rows = Edge.and(rows, "put 0 " + i + " " + (i + 1));
        }
        // By a third of 1 nothing is had: as all KINDS but PUNT and RAFT.
        oneByOne(rows).keeps(91, "which 0 0").keeps(0, "put 0 39 41", "which 0 0").keeps(0, "put 0 0 0", "which 0 0")
            .keeps(127, "sheet 0 8 0", "which 0 0");
    }

    static void promise29TheKindThatItIsNowDoesNotMatter() {
        still("boat 1 5", "cell 5 1 31", "sheet 0 8 1").gives(4 + 8 + 64, "put 0 0 10", "which 0 0")
            .gives(4, "become 0 61",
            "put 0 0 10", "cell 5 1 30", "which 0 0").gives(1, "put 0 0 5", "which 0 0")
                .gives(2, "put 0 0 3", "which 0 0")
            .gives(16, "put 0 0 4", "which 0 0").gives(32, "put 0 0 11", "which 0 0");
    }

    static void promise29MinuteBeyond9999() {
        late("cell 5 1 31", "sheet 0 8 2", "put 0 0 10", "put 0 1 15").keeps(8 + 64, "which 0 0")
            .keeps(0, "put 0 1 16", "which 0 0");
    }

    // ---- promise 30

    static void promise30Sheets0To3() {
        new Edge(Edge.port()).beyond(new int[] {-1, 4}, "lay # 0 0").keeps(0, "lay 0 0 0").keeps(100, "lay 2 0 0");
        new Edge("sheet 0 8 0", "sheet 3 8 0").within(0, 100, 3, 100, "lay # 0 0");
    }

    static void promise30Cells0To15() {
        new Edge(Edge.port()).within(0, 100, 15, 100, "lay 2 # 0");
    }

    static void promise30What0To1() {
        new Edge(Edge.port()).within(0, 100, 1, 0, "lay 2 5 #").keeps(100, "lay 2 5 0").keeps(0, "lay 2 5 1");
    }

    static void promise30ASheetThatIsMissing() {
        new Edge(Edge.port()).refuses(NONE, "lay 3 0 0").refuses(NONE, "lay 3 15 1");
    }

    static void promise30ThereIsNone() {
        new Edge(Edge.port()).keeps(0, "lay 0 5 0").refuses(NONE, "lay 0 5 1");
    }

    static void promise30BeyondAheadOfNone() {
        new Edge(Edge.port()).beyond(new int[] {-1, 16}, "lay 3 # 0").beyond(new int[] {-1, 2}, "lay 3 0 #");
    }

    static void promise30Stuff0To99() {
        // A PUNT has a third of what lies there: 0 of 0 to 2, 1 of 3 to 5, .. 32 of 96 to 98, 33 of 99.
        Edge punt = still("boat 20 5", "sheet 0 8 1", "cell 5 1 44");
        punt.keeps(3, "lay 0 5 0").keeps(0, "lay 0 5 1").gives(3, "put 0 0 1", "lay 0 5 0")
            .gives(3, "put 0 0 1", "lay 0 5 1")
            .gives(3, "put 0 0 32", "lay 0 5 0").gives(96, "put 0 0 32", "lay 0 5 1").gives(1, "put 0 0 33", "lay 0 5 0")
            .gives(99, "put 0 0 33", "lay 0 5 1").gives(0, "put 0 0 34", "lay 0 5 0")
            .refuses(NONE, "put 0 0 34", "lay 0 5 1");
    }

    static void promise30AnotherCellDoesNotMatter() {
        Edge punt = still("boat 20 5", "sheet 0 8 1", "cell 5 1 30");
        punt.gives(100, "put 0 0 10", "lay 0 6 0").gives(0, "put 0 0 10", "lay 0 6 1").gives(0, "put 0 0 9", "lay 0 6 0");
    }

    static void promise30NoNumbersToForty() {
        String[] rows = {"sheet 0 8 40"};
        for (int i = 0; i < 40; i++) {
            rows = Edge.and(rows, "put 0 " + i + " " + (i + 1));
        }
        oneByOne(rows).keeps(1, "lay 0 10 0").keeps(0, "lay 0 10 1").keeps(100, "lay 0 9 0")
            .keeps(0, "put 0 39 39", "lay 0 9 0")
            .keeps(100, "sheet 0 8 0", "lay 0 10 0");
    }

    static void promise30MinuteBeyond9999() {
        late("sheet 0 8 2", "put 0 0 3", "put 0 1 3").keeps(1, "lay 0 5 0").keeps(3, "lay 0 5 1")
            .keeps(0, "put 0 1 4", "lay 0 5 0");
    }

    // ---- promise 31

    static void promise31Behind0To30() {
        oneByOne().within(0, 1, 30, 1, "odds # 0 0").keeps(1, "odds 30 30 0").keeps(20, "odds 30 30 1")
            .keeps(0, "odds 30 31 0");
        new Edge(Edge.port()).beyond(new int[] {-1, 31}, "odds # 0 0");
    }

    static void promise31Had0To792() {
        new Edge(fullFleet()).within(0, 1, 792, 1, "odds 0 # 0").gives(0, "change 4 1 98", "odds 0 792 0")
            .gives(1, "change 4 1 98", "odds 0 792 1")
            .gives(1, "change 4 1 98", "odds 0 791 0");
        new Edge(Edge.port()).beyond(new int[] {-1, 793}, "odds 0 # 0").keeps(1, "odds 0 177 0").keeps(0, "odds 0 178 0");
    }

    static void promise31Parts0To1() {
        oneByOne().within(0, 9, 1, 10, "odds 20 3 #");
        new Edge(Edge.port()).beyond(new int[] {-1, 2}, "odds 0 0 #");
    }

    static void promise31InLowestTerms() {
        // Behind 20 MINUTES HAD is DARK, so it is v or more with 21 less v of them.
        int[] above = {1, 1, 19, 9, 17, 4, 3, 7, 13, 3, 11, 1, 9, 2, 7, 3, 1, 1, 3, 1, 1, 0};
        int[] below = {1, 1, 20, 10, 20, 5, 4, 10, 20, 5, 20, 2, 20, 5, 20, 10, 4, 5, 20, 10, 20, 1};
        for (int v = 0; v <= 21; v++) {
            oneByOne().keeps(above[v], "odds 20 " + v + " 0").keeps(below[v], "odds 20 " + v + " 1");
        }
    }

    static void promise31ZeroIs0By1() {
        new Edge().keeps(0, "odds 0 1 0").keeps(1, "odds 0 1 1").keeps(0, "odds 30 792 0").keeps(1, "odds 30 792 1")
            .keeps(1, "odds 30 0 0").keeps(1, "odds 30 0 1");
    }

    static void promise31MinuteBeyond9999() {
        late("cell 5 1 5").keeps(1, "odds 1 1 0").keeps(20, "odds 1 1 1");
        late("tape 1", "text 0").keeps(1, "odds 2 1 1").keeps(19, "odds 3 2 0").keeps(20, "odds 3 2 1");
    }
}
