/** The boundaries of promises 14 to 16, and of TEXTS as the terms tell them. */
public final class TextEdgesTest {
    private static final int BEYOND = Edge.BEYOND;
    private static final int FULL = Edge.FULL;
    private static final String FORTY_NINE = "s" + "+1".repeat(24);

    public static void main(String[] args) {
        Edge.run(TextEdgesTest.class, 14, 16);
    }

    /** It is a TEXT of SETTLES. */
    private static void isText(String text) {
        new Edge("tape " + text).gives(1, "text 0");
    }

    /** It has this FAULT as a TEXT of SETTLES; the one ahead stays, THE TAPE is empty then, and no ERROR is counted. */
    private static void fault(int place, String text) {
        Edge ahead = new Edge("tape s+7", "text 0", "tape " + text);
        ahead.gives(-10 - place, "text 0").gives(10, "text 0", "law 0 3 0 0").gives(0, "text 0", "count 7");
        for (int k = 1; k <= 5; k++) {
            ahead.gives(0, "text 0", "told " + k);
        }
    }

    /** What a TEXT of SETTLES gives with s and d so. */
    private static void worth(int due, String text, String s, String d) {
        new Edge("tape " + text).gives(1, "text 0").gives(due, "text 0", "law 0 " + s + " " + d + " 0");
    }

    // ---- terms: NUMBERS and NAMES

    static void terms2ANumberHas1To4Digits() {
        isText("0");
        isText("9999");
        isText("0000");
        fault(4, "99999");
        fault(4, "00000");
        isText("s+1234");
        fault(6, "s+12345");
        fault(5, "(12345)");
    }

    static void terms2TheGreatestNumberIs9999() {
        worth(99, "9999-s", "9900", "0");
        worth(0, "9999-s", "9999", "0");
        worth(1, "9999-s", "9998", "0");
    }

    static void terms2DigitsFromTheFirstOn() {
        worth(10, "0010", "0", "0");
        worth(12, "12", "0", "0");
        worth(9, "9", "0", "0");
    }

    static void terms2NamesOfTheUseAlone() {
        Edge fresh = new Edge();
        for (String name : new String[] {"s", "d", "t"}) {
            fresh.gives(1, "tape " + name, "text 0").gives(-10, "tape " + name, "text 1")
                .gives(-12, "tape 1+" + name, "text 1");
        }
        for (String name : new String[] {"l", "b", "h"}) {
            fresh.gives(1, "tape " + name, "text 1").gives(-10, "tape " + name, "text 0")
                .gives(-12, "tape 1+" + name, "text 0");
        }
        fault(0, "S");
        fault(0, "r");
        fault(0, "c");
        fault(0, "u");
    }

    static void terms2ANameIsOneByte() {
        fault(1, "ss");
        fault(1, "s1");
        fault(1, "1s");
    }

    // ---- terms: how many of ! and ( are open

    static void terms2FiveOfTheSameAreOpen() {
        isText("!!!!!s");
        fault(5, "!!!!!!s");
        isText("(((((s)))))");
        fault(5, "((((((s))))))");
    }

    static void terms2FiveOfBothAreOpen() {
        isText("!(!(!s))");
        fault(5, "!(!(!(s)))");
        isText("(!(!(s)))");
        fault(5, "(!(!((s))))");
        isText("((((!s))))");
        fault(5, "((((!!s))))");
        fault(5, "((((!(s)))))");
        isText("!!!!(s)");
        fault(5, "!!!!(!s)");
        fault(5, "!!!!((s))");
    }

    static void terms2ThoseThatAreClosedAreNotCounted() {
        isText("!!!!!s+!!!!!d");
        isText("(((((s)))))*(((((d)))))");
        isText("(((((s)+!d))))");
        fault(7, "(((((s+!d)))))");
        fault(7, "(((((s+(d))))))");
        isText("!!!!!s*(((((d)))))");
        isText("(s)+(s)+(s)+(s)+(s)+(s)");
        isText("!s+!s+!s+!s+!s+!s");
        isText("(!!!!s+!!!!d)");
        fault(11, "(!!!!s+!!!!!d)");
    }

    static void terms2WhatIsOpenMustBeClosed() {
        fault(2, "(s");
        fault(6, "(s+(d)");
        isText("(s+(d))");
        fault(7, "(s+(d)))");
        fault(1, "s)");
        fault(1, "()");
    }

    // ---- terms: how signs go on

    static void terms2OneComparisonAlone() {
        isText("s<d");
        for (String first : new String[] {"<", "=", ">"}) {
            for (String second : new String[] {"<", "=", ">"}) {
                fault(3, "s" + first + "d" + second + "t");
            }
        }
        isText("(s<d)<t");
        isText("s<(d<t)");
        isText("s<d&d=t|t>s");
        isText("s+1<d*2-t");
        fault(4, "(s<d<t)");
    }

    static void terms2SignsStandBetween() {
        fault(0, "+s");
        fault(0, "-1");
        fault(2, "s+-1");
        fault(2, "s++1");
        fault(2, "s<=d");
        fault(2, "s&&d");
        fault(2, "s||d");
        fault(1, "s!d");
        fault(1, "s(d)");
        fault(3, "(s)(d)");
        fault(3, "(s)1");
        isText("s*!d");
    }

    static void terms2NoBlanks() {
        fault(0, " s");
        fault(1, "s ");
        fault(1, "s +d");
        fault(2, "s+ d");
        fault(1, "( s)");
        fault(0, " ");
    }

    static void terms2BytesThatAreNoSigns() {
        for (int sign : new int[] {0, 1, 9, 10, 31, 127, 128, 243, 255, 's' + 128, '1' + 128, '9' + 1}) {
            fault(0, "" + (char) sign);
            fault(1, "s" + (char) sign);
            fault(2, "s+" + (char) sign);
        }
    }

    static void terms2ItEndsTooEarly() {
        new Edge().gives(-10, "text 0").gives(-10, "text 1");
        new Edge("tape s+7", "text 0").gives(10, "text 0", "law 0 3 0 0");
        fault(1, "!");
        fault(1, "(");
        fault(2, "(s");
        for (String sign : new String[] {"|", "&", "<", "=", ">", "+", "-", "*", "/", "%"}) {
            fault(2, "s" + sign);
            fault(0, sign);
        }
        fault(5, "!!!!!");
        fault(5, "(((((");
    }

    static void terms2FiftyBytes() {
        isText(FORTY_NINE);
        isText(FORTY_NINE + "0");
        fault(50, FORTY_NINE + "+");
        fault(49, FORTY_NINE + "s");
        fault(49, "10" + FORTY_NINE.substring(1, 48) + "&");
        worth(24, FORTY_NINE, "0", "0");
        worth(33, FORTY_NINE + "0", "0", "0");
    }

    // ---- terms: what is worked out

    static void terms2IntsWrap() {
        worth(0, "s+1", "MAX", "0");
        worth(99, "s+0", "MAX", "0");
        worth(99, "s-1", "MIN", "0");
        worth(1, "s-1=d", "MIN", "MAX");
        worth(1, "s+1=d", "MAX", "MIN");
        worth(1, "s*2=0", "MIN", "0");
        worth(1, "s*2+2=0", "MAX", "0");
        worth(99, "s*s", "46340", "0");
        worth(0, "s*s", "46341", "0");
        worth(1, "0-s=s", "MIN", "0");
    }

    static void terms2By0Is0() {
        worth(0, "s/d", "5", "0");
        worth(5, "s/d", "5", "1");
        worth(0, "s%d", "5", "0");
        worth(1, "s%d", "5", "2");
        worth(7, "7+s/0", "MIN", "0");
        worth(7, "7+s%0", "MAX", "0");
        worth(3, "3+1/(d-d)*s", "8", "4");
    }

    static void terms2TheLeastIntByLess1() {
        worth(1, "s/d=s", "MIN", "-1");
        worth(1, "s%d=0", "MIN", "-1");
    }

    static void terms2QuotientsAreCutTowardZero() {
        worth(6, "9+s/d", "-7", "2");
        worth(6, "9+s/d", "7", "-2");
        worth(12, "9+s/d", "-7", "-2");
        worth(9, "9+s/d", "-1", "2");
        worth(6, "9+s%d", "-7", "4");
        worth(12, "9+s%d", "7", "-4");
        worth(6, "9+s%d", "-7", "-4");
        worth(9, "9+s%d", "-8", "4");
    }

    static void terms2WhatIsNot0IsTrue() {
        worth(0, "s|d", "0", "0");
        worth(1, "s|d", "0", "-1");
        worth(1, "s|d", "MIN", "0");
        worth(1, "s|d", "2", "4");
        worth(0, "s&d", "0", "5");
        worth(0, "s&d", "5", "0");
        worth(1, "s&d", "1", "2");
        worth(1, "s&d", "MIN", "-1");
        worth(1, "!s", "0", "0");
        worth(0, "!s", "1", "0");
        worth(0, "!s", "-1", "0");
        worth(0, "!s", "MIN", "0");
        worth(1, "!!s", "7", "0");
    }

    static void terms2WhatIsNotTrueIs0AndNotLess() {
        for (String sign : new String[] {"|", "&", "<", "=", ">"}) {
            worth(sign.equals("=") ? 6 : 5, "5+(s" + sign + "d)", "0", "0");
        }
        worth(5, "5+(s=d)", "0", "1");
        worth(5, "5+!s", "1", "0");
        worth(6, "5+!s", "0", "0");
    }

    static void terms2ATextStandsInBrackets() {
        isText("(s|d)");
        isText("(s|d&t<1)");
        worth(6, "5+(s|d)", "0", "3");
        worth(6, "5+(s&d)", "2", "3");
    }

    static void terms2Comparisons() {
        worth(1, "s<d", "4", "5");
        worth(0, "s<d", "5", "5");
        worth(0, "s<d", "6", "5");
        worth(0, "s>d", "4", "5");
        worth(0, "s>d", "5", "5");
        worth(1, "s>d", "6", "5");
        worth(0, "s=d", "4", "5");
        worth(1, "s=d", "5", "5");
        worth(1, "s<d", "MIN", "MAX");
        worth(0, "s<d", "MAX", "MIN");
        worth(1, "s>d", "MAX", "MIN");
        worth(0, "s=d", "MAX", "MIN");
    }

    static void terms2FromTheLeftAndByRank() {
        worth(12, "20-5-3", "0", "0");
        worth(2, "20/5/2", "0", "0");
        worth(2, "17%9%3", "0", "0");
        worth(8, "9-2+1", "0", "0");
        worth(6, "9/3*2", "0", "0");
        worth(3, "7*5%8", "0", "0");
        worth(14, "2+3*4", "0", "0");
        worth(20, "(2+3)*4", "0", "0");
        worth(1, "1|0&0", "0", "0");
        worth(0, "(1|0)&0", "0", "0");
        worth(1, "2&1<3", "0", "0");
        worth(0, "(2&1)>3", "0", "0");
        worth(5, "!s*5", "0", "0");
        worth(1, "1+1=2", "0", "0");
    }

    static void terms2SettlesIsHeldWithin0And99() {
        worth(0, "s", "-1", "0");
        worth(0, "s", "0", "0");
        worth(99, "s", "99", "0");
        worth(99, "s", "100", "0");
        worth(98, "s", "98", "0");
        worth(0, "s", "MIN", "0");
        worth(99, "s", "MAX", "0");
    }

    static void terms2LostIsHeldWithin0And99() {
        new Edge("tape l", "text 1").gives(0, "law 1 -1 0 0").gives(0, "law 1 0 0 0").gives(1, "law 1 1 0 0")
            .gives(99, "law 1 99 0 0").gives(99, "law 1 100 0 0").gives(0, "law 1 MIN 0 0").gives(99, "law 1 MAX 0 0");
    }

    static void terms2SettlesWithoutATextIsD() {
        new Edge().gives(0, "law 0 50 0 50").gives(99, "law 0 50 99 50").gives(9, "law 0 MIN 9 MAX");
    }

    static void terms2LostWithoutATextIsLIfHIsnt0() {
        new Edge().gives(0, "law 1 5 50 0").gives(5, "law 1 5 50 1").gives(5, "law 1 5 50 -1").gives(5, "law 1 5 50 MIN")
            .gives(5, "law 1 5 50 2").gives(0, "law 1 0 50 1").gives(99, "law 1 99 50 1");
    }

    /** The document marks what may be any number, and this it does not: no answer of law() may look like an ERROR. */
    static void terms2HeldWithoutATextToo() {
        new Edge().gives(99, "law 0 0 100 0").gives(0, "law 0 0 -1 0").gives(0, "law 0 0 MIN 0")
            .gives(99, "law 0 0 MAX 0")
            .gives(99, "law 1 100 0 1").gives(0, "law 1 -1 0 1").gives(0, "law 1 MIN 0 1").gives(99, "law 1 MAX 0 1");
    }

    // ---- promise 14

    static void promise14OneToEightBytes() {
        new Edge().within(1, 1, 8, 8, "feed -1 #");
        new Edge(Edge.port()).within(1, 7, 8, 14, "feed 0 #");
    }

    static void promise14AtMost50() {
        new Edge("tape " + FORTY_NINE.substring(0, 42)).gives(50, "feed 0 8");
        new Edge("tape " + FORTY_NINE.substring(0, 43)).refuses(FULL, "feed 0 8").gives(50, "feed 0 7");
        new Edge("tape " + FORTY_NINE).gives(50, "feed 0 1").refuses(FULL, "feed 0 2").refuses(FULL, "feed 0 8");
        new Edge("tape " + FORTY_NINE + "0").refuses(FULL, "feed 0 1").refuses(FULL, "feed 0 8");
        new Edge(Edge.fullPort()).refuses(FULL, "feed 0 1").refuses(FULL, "feed 0 8").gives(50, "count 7");
    }

    static void promise14BeyondAheadOfFull() {
        new Edge("tape " + FORTY_NINE + "0").beyond(new int[] {0, -1, 9}, "feed 0 #");
    }

    static void promise14TheLowestBytesTheLowestFirst() {
        // "s+d" with more above it; "1+1+1+1" with 0x9e as the eighth byte; one word behind another
        new Edge().gives(1, "feed 0x2929297a642b73 3", "text 0")
            .gives(5, "feed 0x2929297a642b73 3", "text 0", "law 0 2 3 0")
            .gives(-17, "feed -7047804451680081103 8", "text 0").gives(1, "feed -7047804451680081103 7", "text 0")
            .gives(4, "feed -7047804451680081103 7", "text 0", "law 0 0 0 0")
            .gives(23, "feed 0x32 1", "feed 0x33 1", "text 0", "law 0 0 0 0");
    }

    static void promise14ABytesSignIsNoSign() {
        new Edge().gives(8, "feed -1 8").gives(-10, "feed -1 8", "text 0").gives(-11, "feed 0xff73 2", "text 0");
    }

    // ---- promise 15

    static void promise15Uses0To1() {
        new Edge("tape s", "text 0", "tape 1").within(0, 1, 1, 1, "text #");
        new Edge(Edge.port()).beyond(new int[] {-1, 2}, "text #");
    }

    static void promise15TheTapeStaysWhenBeyond() {
        new Edge("tape s+1").gives(3, "text 2", "count 7").gives(1, "text 2", "text 0")
            .gives(6, "text -1", "text 0", "law 0 5 0 0");
    }

    static void promise15TheTapeIsEmptyThen() {
        new Edge("tape s+1").gives(0, "text 0", "count 7").gives(0, "text 1", "count 7").gives(-10, "text 0", "text 0");
        new Edge("tape s+").gives(0, "text 0", "count 7").gives(-10, "text 0", "text 0");
    }

    static void promise15OneUseAlone() {
        new Edge("tape 7", "text 0", "tape 8", "text 1").gives(7, "law 0 0 0 0").gives(8, "law 1 0 0 0");
        new Edge("tape 7", "text 1").gives(5, "law 0 0 5 0");
    }

    static void promise15InPlaceOfOneAhead() {
        new Edge("tape " + FORTY_NINE, "text 0").gives(3, "tape t", "text 0", "law 0 1 2 3");
        new Edge("tape t", "text 0").gives(24, "tape " + FORTY_NINE, "text 0", "law 0 0 2 3");
    }

    static void promise15TheFaultIsNoErrorAndTheOneAheadStays() {
        new Edge("tape s", "text 0", "tape l", "text 1").gives(-12, "tape 1+", "text 0")
            .gives(5, "tape 1+", "text 0", "law 0 5 0 0")
            .gives(5, "tape 1+", "text 1", "law 1 5 0 0").gives(0, "tape 1+", "text 1", "told 1");
        new Edge().gives(6, "tape 1+", "text 0", "law 0 5 6 7").gives(5, "tape 1+", "text 1", "law 1 5 6 7");
    }

    static void promise15TheLeastAndTheGreatestFault() {
        new Edge().gives(-10, "text 0").gives(-10, "tape )", "text 0").gives(-11, "tape (", "text 0")
            .gives(-59, "tape " + FORTY_NINE + "(", "text 0").gives(-60, "tape " + FORTY_NINE + "*", "text 0");
    }

    // ---- promise 16

    static void promise16Uses0To1() {
        new Edge().within(0, 6, 1, 5, "law # 5 6 7");
        new Edge(Edge.port()).beyond(new int[] {-1, 2}, "law # 0 0 0").keeps(4, "law 0 6 0 0").keeps(11, "law 1 5 6 6");
        new Edge(Edge.port()).refuses(BEYOND, "law 2 MIN MAX MIN");
    }

    static void promise16NamesInOrder() {
        new Edge("tape s*9+d*3+t", "text 0").gives(18, "law 0 1 2 3").gives(9, "law 0 1 0 0").gives(3, "law 0 0 1 0")
            .gives(1, "law 0 0 0 1");
        new Edge("tape l*9+b*3+h", "text 1").gives(18, "law 1 1 2 3").gives(9, "law 1 1 0 0").gives(3, "law 1 0 1 0")
            .gives(1, "law 1 0 0 1");
    }

    static void promise16NamesMayBeAnyInts() {
        new Edge("tape (s<0)+(d>0)*2", "text 0").gives(3, "law 0 MIN MAX 0").gives(0, "law 0 MAX MIN 0");
    }
}
