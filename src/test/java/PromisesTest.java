import java.util.NoSuchElementException;

/** Every promise by answers worked out by hand from the document. */
public final class PromisesTest {
    private static final int THROWS = Integer.MIN_VALUE;
    private static final int[] STRANGE = {Integer.MIN_VALUE, -3, Integer.MAX_VALUE};

    private static int wrong = 0;
    private static int asked = 0;

    private static void due(String call, long got, long want) {
        asked++;
        if (got != want) {
            wrong++;
            System.out.println(call + " answered " + got + ", due is " + want);
        }
    }

    private static void due(String call, boolean got, boolean want) {
        due(call, got ? 1 : 0, want ? 1 : 0);
    }

    private static int innings(CutMatch m, int i, int what) {
        try {
            return m.innings(i, what);
        } catch (NoSuchElementException e) {
            return THROWS;
        }
    }

    private static int cut(CutMatch m, int i, int k, int what) {
        try {
            return m.cut(i, k, what);
        } catch (NoSuchElementException e) {
            return THROWS;
        }
    }

    /** The text comes behind an empty TAPE. */
    private static void tell(CutMatch m, String text) {
        int[] words = Run.words(text);
        for (int k = 0; k < words.length; k += 5) {
            due("feed", m.feed(words[k], words[k + 1], words[k + 2], words[k + 3], words[k + 4]), 4 * k + 20);
        }
        due("end", m.end(text.length()), true);
    }

    private static int table(CutMatch m, String text) {
        tell(m, text);
        return m.table();
    }

    private static int events(CutMatch m, String text) {
        tell(m, text);
        return m.events();
    }

    private static void tableFault(String text, int kind, int place) {
        CutMatch m = new CutMatch();
        m.play('4', 0);
        due("table " + text, table(m, text), CutMatch.NONE);
        due("fault of " + text, m.fault(), kind + 8 * place);
        due("told stays, " + text, m.told(0, 1), 250);
        due("LOG stays, " + text, m.count(0), 1);
        due("TAPE empty, " + text, m.count(2), 0);
    }

    private static void eventFault(String ahead, String text, int kind, int place) {
        CutMatch m = new CutMatch();
        int before = events(m, ahead);
        int runs = innings(m, 0, 0) + 1000 * innings(m, 1, 0);
        due("events " + text, events(m, text), CutMatch.NONE);
        due("fault of " + text, m.fault(), kind + 8 * place);
        due("LOG stays, " + text, m.count(0), before);
        due("runs stay, " + text, innings(m, 0, 0) + 1000 * innings(m, 1, 0), runs);
        due("TAPE empty, " + text, m.count(2), 0);
    }

    private static CutMatch withOvers(int overs) {
        CutMatch m = new CutMatch();
        due("set", m.set(0, overs), overs != 20);
        return m;
    }

    private static CutMatch played(int overs, String text) {
        CutMatch m = withOvers(overs);
        due("came: " + text, events(m, text) >= 0, true);
        return m;
    }

    // Promise 1
    private static void aNewObject() {
        CutMatch m = new CutMatch();
        int[] settings = {20, 150, 5, 6, 9};
        for (int s = 0; s < 5; s++) {
            due("setting at first", m.count(10 + s), settings[s]);
        }
        for (int w = 0; w < 10; w++) {
            for (int k = 1; k <= 4; k++) {
                due("T at first", m.told(w, k), 25 * k * (10 - w));
            }
        }
        due("no EVENTS", m.count(0), 0);
        due("first in play", m.count(1), 0);
        due("no TAPE", m.count(2), 0);
        due("no FAULT", m.fault(), 0);
    }

    // Promises 2, 3
    private static void feedAndEnd() {
        CutMatch m = new CutMatch();
        due("end 0 of none", m.end(0), true);
        due("end 1 of none", m.end(1), false);
        due("feed", m.feed(0x31322033, 0x0a343536, 0x20202020, 0x20202020, 0x20202078), 20);
        due("bytes", m.count(2), 20);
        due("end below 0", m.end(-1), false);
        due("end too far", m.end(21), false);
        due("bytes stay", m.count(2), 20);
        due("end of all", m.end(20), true);
        due("highest first", m.events(), 7);
        int[] runs = {0, 1, 2, 3, 4, 5, 6};
        for (int r : runs) {
            due("made", m.made(0, r), 1);
        }
        due("x is the last", m.fall(0, 0, 1), 7);
        for (int k = 1; k <= 25; k++) {
            due("feed", m.feed(0x77777777, 0x77777777, 0x77777777, 0x77777777, 0x77777777), 20 * k);
        }
        due("more than 500", m.feed(0, 0, 0, 0, 0), CutMatch.NONE);
        due("none come", m.count(2), 500);
        due("end", m.end(481), true);
        due("501", m.feed(0, 0, 0, 0, 0), CutMatch.NONE);
        due("still", m.count(2), 481);
        due("end", m.end(480), true);
        due("500 again", m.feed(-1, 0, 0, 0, 0), 500);
        due("end", m.end(3), true);
        due("three alone", m.events(), 3);
        due("runs", innings(m, 0, 7), 3);
    }

    // Promise 4
    private static void tableTold() {
        CutMatch m = new CutMatch();
        m.play('4', 0);
        due("rows", table(m, "row 0 300 500 700 1000;row1 200 400 600\n0800 ; "), 2);
        due("no fault", m.fault(), 0);
        due("LOG empty", m.count(0), 0);
        due("runs", innings(m, 0, 0), 0);
        due("TAPE empty", m.count(2), 0);
        due("T(0, 1)", m.told(0, 1), 300);
        due("T(0, 4)", m.told(0, 4), 1000);
        due("T(1, 4)", m.told(1, 4), 800);
        due("T(2, 4) stays", m.told(2, 4), 800);
        m.play('4', 0);
        due("no rows", table(m, " \n"), 0);
        due("LOG empty by no rows", m.count(0), 0);
        due("told twice", table(m, "row 9 25 50 75 99; row 9 1 2 3 4;"), 2);
        due("the later one", m.told(9, 4), 4);
        due("alike is fine", table(m, "row 9 4 4 4 4;"), 1);
        due("of the row ahead, too", table(m, "row 9 50 100 150 200;"), 1);
        due("PART by the table", innings(m, 0, 4), 30000);
        due("full by the table", table(m, "row 0 300 500 700 900;"), 1);
        due("PART by the new one", innings(m, 0, 4), 27000);
        due("TAPE is taken once", m.table(), 0);
    }

    private static void tableFaults() {
        tableFault("rows 0 1 2 3 4;", 1, 0);
        tableFault("  ro 0 1 2 3 4;", 1, 2);
        tableFault("Row 0 1 2 3 4;", 1, 0);
        tableFault("rowa 0 1 2 3 4;", 1, 0);
        tableFault("rowz 0 1 2 3 4;", 1, 0);
        tableFault("roq 0 1 2 3 4;", 1, 0);
        tableFault("0 1 2 3 4;", 1, 0);
        tableFault("row", 1, 3);
        tableFault("row \n", 1, 5);
        tableFault("row x", 1, 4);
        tableFault("row 10 x", 2, 4);
        tableFault("row 9 0", 2, 6);
        tableFault("row 0 1 2 3 1001 x", 2, 12);
        tableFault("row 0 1 2 3 01000;", 2, 12);
        tableFault("row 00000 1 2 3 4;", 2, 4);
        tableFault("row 0 1 2 3;", 1, 11);
        tableFault("row 0 1 2 3 4 55555;", 1, 14);
        tableFault("row 0 1 2 3 4", 1, 13);
        tableFault("row 0 1 2 3 4.", 1, 13);
        tableFault("row 0 1 2\t3 4;", 1, 9);
        tableFault("row 0 1 2 3 4;;", 1, 14);
        tableFault("row 0 250 500 750 740; ", 4, 23);
        tableFault("row 0 250 500 750 899;", 4, 22);
        tableFault("row 1 251 450 675 900;", 4, 22);
        tableFault("row 0 1 1 1 1; row 11", 2, 19);
        CutMatch m = new CutMatch();
        due("0004 digits", table(m, "row 0009 0001 0002 3 4;"), 1);
        due("T(9, 1)", m.told(9, 1), 1);
    }

    // Promises 5, 6
    private static void eventsTold() {
        CutMatch m = new CutMatch();
        due("none", m.events(), 0);
        due("came", events(m, "4w x\n6n c 10 d012 0"), 8);
        due("no fault", m.fault(), 0);
        due("EVENTS", m.count(0), 8);
        due("runs", innings(m, 0, 0), 12);
        due("overs", innings(m, 0, 3), 10);
        due("overs of the second", innings(m, 1, 3), 12);
        due("behind those", events(m, "c9d1"), 2);
        due("EVENTS", m.count(0), 10);
        due("fault", events(m, "1 2 9"), CutMatch.NONE);
        due("kept", m.fault(), 1 + 8 * 4);
        due("play", m.play('1', 0), 11);
        due("kept by play", m.fault(), 33);
        due("none come", m.made(0, 1), 1);
        due("gone", events(m, "1"), 1);
        due("gone", m.fault(), 0);
        due("by table", table(m, "q"), CutMatch.NONE);
        due("by table", m.fault(), 1);
    }

    private static void eventFaults() {
        eventFault("12", "34 7", 1, 3);
        eventFault("12", "8", 1, 0);
        eventFault("12", "1c", 1, 2);
        eventFault("12", "1c \n", 1, 4);
        eventFault("12", "1c x", 1, 3);
        eventFault("12", "1c 0", 2, 3);
        eventFault("12", "c20", 2, 1);
        eventFault("12", "c 00019", 2, 2);
        eventFault("12", "c105", 2, 1);
        eventFault("111111 1", " c1", 2, 2);
        eventFault("", "d 20", 2, 2);
        eventFault("", "d 0", 2, 2);
        eventFault("", "d 5 d 5", 2, 6);
        eventFault("", "d", 1, 1);
        eventFault("//", "1", 3, 0);
        eventFault("//", " c", 3, 1);
        eventFault("//", "d1", 3, 0);
        eventFault("//", "z", 1, 0);
        eventFault("1/", "d5 1 d4", 3, 5);
        eventFault("1/w", "d", 3, 0);
        eventFault("1/c9", "d 3", 3, 0);
        eventFault("", "/ / /", 3, 4);
        eventFault("", "X", 1, 0);
        eventFault("", "1\t2", 1, 1);
        String many = "w".repeat(399);
        eventFault(many, "ww", 3, 1);
        eventFault(many, "w q", 1, 2);
        eventFault(many, "w c", 3, 2);
        eventFault("", many + "w w", 3, 401);
        CutMatch m = new CutMatch();
        due("400", events(m, many + "n"), 400);
        due("no more", m.play('w', 0), CutMatch.NONE);
        due("EVENTS", m.count(0), 400);
        due("runs", innings(m, 0, 0), 400);
    }

    // Promise 7
    private static void settings() {
        int[] least = {1, 1, 1, 0, 0};
        int[] most = {20, 400, 20, 11, 14};
        for (int s = 0; s < 5; s++) {
            CutMatch m = new CutMatch();
            int now = m.count(10 + s);
            m.play('1', 0);
            due("it is so", m.set(s, now), false);
            due("too few", m.set(s, least[s] - 1), false);
            due("too many", m.set(s, most[s] + 1), false);
            for (int v : STRANGE) {
                due("strange", m.set(s, v), false);
            }
            due("LOG stays", m.count(0), 1);
            due("stays", m.count(10 + s), now);
            due("least", m.set(s, least[s]), true);
            due("LOG empty", m.count(0), 0);
            due("is", m.count(10 + s), least[s]);
            due("most", m.set(s, most[s]), true);
            due("is", m.count(10 + s), most[s]);
        }
        CutMatch m = new CutMatch();
        due("none such", m.set(5, 3), false);
        due("none such", m.set(-1, 3), false);
        due("second 0", m.set(4, 0), true);
        due("first 20", m.set(3, 20), true);
        due("first 21", m.set(3, 21), false);
        due("20 together", m.set(4, 1), false);
        due("overs", m.set(0, 7), true);
        due("innings 0", innings(m, 0, 3), 7);
        due("innings 1", innings(m, 1, 8), 42);
    }

    // Promises 8, 9, 10
    private static void playBackClear() {
        CutMatch m = withOvers(3);
        due("back of none", m.back(), CutMatch.NONE);
        due("ball", m.play('6', -9), 1);
        due("back of one", m.back(), 0);
        due("nothing is made", m.made(0, 6), 0);
        due("ball", m.play('6', -9), 1);
        due("not 7", m.play('7', 0), CutMatch.NONE);
        due("no byte", m.play(6, 0), CutMatch.NONE);
        due("no byte", m.play('6' + 256, 0), CutMatch.NONE);
        due("blank", m.play(' ', 0), CutMatch.NONE);
        for (int v : STRANGE) {
            due("strange", m.play(v, v), CutMatch.NONE);
            due("strange c", m.play('c', v), CutMatch.NONE);
            due("strange d", m.play('d', v), CutMatch.NONE);
        }
        due("c as it is", m.play('c', 3), CutMatch.NONE);
        due("c 0", m.play('c', 0), CutMatch.NONE);
        due("d as it is", m.play('d', 3), CutMatch.NONE);
        due("d", m.play('d', 2), 2);
        due("c", m.play('c', 1), 3);
        due("x", m.play('x', 77), 4);
        due("w", m.play('w', 0), 5);
        due("n", m.play('n', 0), 6);
        due("close", m.play('/', 0), 7);
        due("d between", m.play('d', 1), 8);
        due("ball", m.play('0', 0), 9);
        due("d too late", m.play('d', 1), CutMatch.NONE);
        due("close", m.play('/', 0), 10);
        due("over", m.play('1', 0), CutMatch.NONE);
        due("over", m.count(1), 2);
        due("back", m.back(), 9);
        due("in play", m.count(1), 1);
        due("not closed", innings(m, 1, 6), 0);
        due("back", m.back(), 8);
        due("d's overs", innings(m, 1, 3), 1);
        due("back", m.back(), 7);
        due("d's overs", innings(m, 1, 3), 2);
        due("back", m.back(), 6);
        due("first in play", m.count(1), 0);
        due("runs", innings(m, 0, 0), 8);
        due("clear", m.clear(), 6);
        for (int r = 0; r <= 6; r++) {
            due("none made", m.made(0, r), 0);
        }
        for (int what = 0; what < 3; what++) {
            due("no OVER", m.over(0, 0, what), 0);
        }
        due("no wicket", m.fall(0, 0, 0), CutMatch.NONE);
        due("clear", m.clear(), 0);
        due("EVENTS", m.count(0), 0);
        due("runs", innings(m, 0, 0), 0);
        due("overs", innings(m, 0, 3), 3);
        due("overs", innings(m, 1, 3), 3);
        due("SETTINGS stay", m.count(10), 3);
    }

    // Promises 11, 12, 13
    private static void countWorthTold() {
        CutMatch m = new CutMatch();
        due("FULL", m.count(3), 30000);
        for (int what : new int[] {-1, 4, 9, 15, Integer.MIN_VALUE, Integer.MAX_VALUE}) {
            due("another what", m.count(what), CutMatch.NONE);
        }
        due("row", table(m, "row 0 400 600 700 710;"), CutMatch.NONE);
        due("row", table(m, "row 0 400 600 800 900;"), 1);
        due("FULL", m.count(3), 27000);
        due("worth 0", m.worth(0, 0), 0);
        due("worth 1", m.worth(1, 0), 400);
        due("worth 29", m.worth(29, 0), 11600);
        due("worth 30", m.worth(30, 0), 12000);
        due("worth 31", m.worth(31, 0), 12200);
        due("worth 119", m.worth(119, 0), 26900);
        due("worth 120", m.worth(120, 0), 27000);
        due("worth by 3", m.worth(47, 3), 25 * 7 * 47);
        due("worth by 9", m.worth(120, 9), 3000);
        due("worth by 10", m.worth(120, 10), 0);
        due("none such", m.worth(121, 0), CutMatch.NONE);
        due("none such", m.worth(-1, 0), CutMatch.NONE);
        due("none such", m.worth(5, 11), CutMatch.NONE);
        due("none such", m.worth(5, -1), CutMatch.NONE);
        due("told", m.told(0, 3), 800);
        due("told", m.told(9, 1), 25);
        due("told 0", m.told(0, 0), CutMatch.NONE);
        due("told 5", m.told(0, 5), CutMatch.NONE);
        due("told row 10", m.told(10, 1), CutMatch.NONE);
        due("told row -1", m.told(-1, 1), CutMatch.NONE);
        for (int v : STRANGE) {
            due("strange", m.worth(v, 0), CutMatch.NONE);
            due("strange", m.worth(0, v), CutMatch.NONE);
            due("strange", m.told(v, 1), CutMatch.NONE);
            due("strange", m.told(1, v), CutMatch.NONE);
        }
        tell(m, "abc");
        due("bytes", m.count(2), 3);
    }

    private static void inningsIs(CutMatch m, int i, int... want) {
        for (int what = 0; what < want.length; what++) {
            due("innings(" + i + ", " + what + ")", innings(m, i, what), want[what]);
        }
    }

    // Promises 14, 15
    private static void inningsAndCuts() {
        CutMatch m = withOvers(10);
        inningsIs(m, 0, 0, 0, 0, 10, 15000, 0, 0, 0, 60);
        due("d", events(m, "d8"), 1);
        inningsIs(m, 1, 0, 0, 0, 8, 12000, 0, 0, 0, 48);
        // 12 balls, 2 wickets: c 6 takes 48 - 24 = 24 balls of 8 wickets.
        due("came", events(m, "4x1w2n6 x00300 5 c6 "), 15);
        inningsIs(m, 0, 23, 2, 12, 6, 15000 - 24 * 200, 1, 0, 2, 24);
        due("came", events(m, "x c 4"), 2);
        inningsIs(m, 0, 23, 3, 13, 4, 10200 - 12 * 175, 2, 0, 2, 11);
        int[] firstCut = {12, 2, 10, 6, 4800};
        int[] secondCut = {13, 3, 6, 4, 2100};
        for (int what = 0; what < 5; what++) {
            due("cut", cut(m, 0, 0, what), firstCut[what]);
            due("cut", cut(m, 0, 1, what), secondCut[what]);
        }
        due("cut what", cut(m, 0, 0, 5), THROWS);
        due("cut what", cut(m, 0, 0, -1), THROWS);
        due("cut k", cut(m, 0, 2, 0), THROWS);
        due("cut k", cut(m, 0, -1, 0), THROWS);
        due("cut i", cut(m, 1, 0, 0), THROWS);
        due("cut i", cut(m, 2, 0, 0), THROWS);
        due("cut i", cut(m, -1, 0, 0), THROWS);
        due("close", m.play('/', 0), 19);
        inningsIs(m, 0, 23, 3, 13, 4, 8100 - 11 * 175, 2, 1, 2, 0);
        due("between", events(m, "d7 d6"), 2);
        inningsIs(m, 1, 0, 0, 0, 6, 9000, 0, 0, 0, 36);
        due("close", events(m, "x/"), 2);
        inningsIs(m, 1, 0, 1, 1, 6, 9000 - 35 * 225, 0, 1, 0, 0);
        for (int v : STRANGE) {
            due("strange", innings(m, v, 0), THROWS);
            due("strange", innings(m, 0, v), THROWS);
            due("strange", cut(m, v, 0, 0), THROWS);
            due("strange", cut(m, 0, v, 0), THROWS);
            due("strange", cut(m, 0, 0, v), THROWS);
        }
        due("innings 2", innings(m, 2, 0), THROWS);
        due("innings -1", innings(m, -1, 0), THROWS);
        due("what 9", innings(m, 0, 9), THROWS);
        due("what -1", innings(m, 0, -1), THROWS);
        CutMatch all = new CutMatch();
        for (int n = 19; n >= 1; n--) {
            due("nineteen cuts", all.play('c', n), 20 - n);
        }
        due("no twentieth", all.play('c', 0), CutMatch.NONE);
        due("CUTS", innings(all, 0, 5), 19);
        due("PART", innings(all, 0, 4), 1500);
        due("the last one", cut(all, 0, 18, 3), 1);
    }

    private static void howInningsEnd() {
        CutMatch m = played(1, "000000");
        due("by its last ball", m.count(1), 1);
        due("tenth wicket", played(3, "xxxxxxxxxx").count(1), 1);
        due("nine", played(3, "xxxxxxxxx").count(1), 0);
        due("a cut to the balls bowled", played(3, "000000 c1").count(1), 1);
        due("a cut to fewer", played(3, "0000000").play('c', 1), CutMatch.NONE);
        due("closed", played(3, "/").count(1), 1);
        due("the target", played(1, "100000 2").count(1), 2);
        due("less by one", played(1, "100000 1").count(1), 1);
        due("by w", played(1, "100000 ww").count(1), 2);
        // S 12, P 3000 (2 overs); behind 3 runs a cut to 1 over: 12 by 2 and 1 is 7.
        due("6 runs", played(2, "6600000000006 c1").count(1), 1);
        due("7 runs", played(2, "66000000000061 c1").count(1), 2);
        due("won by that", played(2, "66000000000061 c1").result(), 2);
        due("wickets left", played(2, "66000000000061 c1").margin(), 10);
        // Without a target the second innings goes on.
        due("P is 0", played(1, "w/ 66666").count(1), 1);
        due("P is 0", played(1, "w/ 666666").count(1), 2);
        CutMatch open = played(5, "1/ d4 d3");
        due("d behind the end", innings(open, 1, 3), 3);
        due("TARGET", open.target(), 1 + 150 * (4500 - 250) / 30000 + 1);
    }

    // Promise 16
    private static void overs() {
        CutMatch m = played(3, "12x0n60 w n 4");
        due("runs", m.over(0, 0, 0), 10);
        due("wickets", m.over(0, 0, 1), 1);
        due("balls", m.over(0, 0, 2), 6);
        due("w behind the last ball", m.over(0, 1, 0), 6);
        due("no wicket", m.over(0, 1, 1), 0);
        due("balls", m.over(0, 1, 2), 1);
        due("not yet", m.over(0, 2, 0), 0);
        due("beyond its overs", m.over(0, 19, 2), 0);
        due("20", m.over(0, 20, 0), CutMatch.NONE);
        due("-1", m.over(0, -1, 0), CutMatch.NONE);
        due("what 3", m.over(0, 0, 3), CutMatch.NONE);
        due("what -1", m.over(0, 0, -1), CutMatch.NONE);
        due("innings 2", m.over(2, 0, 0), CutMatch.NONE);
        due("innings -1", m.over(-1, 0, 0), CutMatch.NONE);
        due("second", m.over(1, 0, 0), 0);
        CutMatch last = played(20, "1".repeat(119));
        due("last over", last.over(0, 19, 2), 5);
        for (int v : STRANGE) {
            due("strange", m.over(v, 0, 0), CutMatch.NONE);
            due("strange", m.over(0, v, 0), CutMatch.NONE);
            due("strange", m.over(0, 0, v), CutMatch.NONE);
        }
    }

    private static void blocksAre(CutMatch m, int i, int first, int second, int third) {
        due("FIRST", m.block(i, 0), first);
        due("SECOND", m.block(i, 1), second);
        due("THIRD", m.block(i, 2), third);
    }

    // Promises 17, 18, 19
    private static void blocks() {
        CutMatch m = new CutMatch();
        blocksAre(m, 0, 6, 9, 5);
        m.play('c', 19);
        // 114, 171, 95: 5 rest 14, 8 rest 11, 4 rest 15; two left.
        blocksAre(m, 0, 6, 8, 5);
        blocksAre(m, 1, 6, 9, 5);
        m.play('c', 10);
        // 60, 90, 50: 3 rest 0, 4 rest 10, 2 rest 10; one left, to the first of like ones.
        blocksAre(m, 0, 3, 5, 2);
        m.play('c', 1);
        blocksAre(m, 0, 0, 1, 0);
        CutMatch like = withOvers(1);
        due("set", like.set(4, 7), true);
        due("set", like.set(3, 7), true);
        blocksAre(like, 0, 1, 0, 0);
        due("block 3", m.block(0, 3), CutMatch.NONE);
        due("block -1", m.block(0, -1), CutMatch.NONE);
        due("innings 2", m.block(2, 0), CutMatch.NONE);
        CutMatch now = withOvers(4);
        // 24, 36, 20: 1 rest 4, 1 rest 16, 1 rest 0; one left, to the SECOND.
        blocksAre(now, 0, 1, 2, 1);
        due("none yet", now.blockNow(), 0);
        due("came", events(now, "12x3w4"), 6);
        due("five balls", now.blockNow(), 0);
        due("came", events(now, "5"), 1);
        due("six balls", now.blockNow(), 1);
        due("came", events(now, "n 6 1 x 0 0 2 0 0 0 0 0"), 12);
        due("seventeen balls", now.blockNow(), 1);
        due("came", events(now, "1"), 1);
        due("eighteen balls", now.blockNow(), 2);
        int[][] want = {{16, 1, 6}, {11, 1, 12}, {0, 0, 0}};
        for (int k = 0; k < 3; k++) {
            for (int what = 0; what < 3; what++) {
                due("inBlock", now.inBlock(0, k, what), want[k][what]);
            }
        }
        due("came", events(now, "w c3"), 2);
        // 18, 27, 15: 0 rest 18, 1 rest 7, 0 rest 15; two left, to FIRST and THIRD.
        blocksAre(now, 0, 1, 1, 1);
        due("by overs as they are, without the run of an OVER beyond", now.inBlock(0, 2, 0), 1);
        due("that run", now.over(0, 3, 0), 1);
        due("by overs as they are", now.inBlock(0, 1, 2), 6);
        due("second in play", now.blockNow(), 0);
        due("over", events(now, "/"), 1);
        due("none in play", now.blockNow(), CutMatch.NONE);
        due("what 3", now.inBlock(0, 0, 3), CutMatch.NONE);
        due("what -1", now.inBlock(0, 0, -1), CutMatch.NONE);
        due("block 3", now.inBlock(0, 3, 0), CutMatch.NONE);
        due("block -1", now.inBlock(0, -1, 0), CutMatch.NONE);
        due("innings 2", now.inBlock(2, 0, 0), CutMatch.NONE);
        for (int v : STRANGE) {
            due("strange", m.block(v, 0), CutMatch.NONE);
            due("strange", m.block(0, v), CutMatch.NONE);
            due("strange", m.inBlock(v, 0, 0), CutMatch.NONE);
            due("strange", m.inBlock(0, v, 0), CutMatch.NONE);
            due("strange", m.inBlock(0, 0, v), CutMatch.NONE);
        }
    }

    // Promises 20, 21, 22
    private static void stands() {
        CutMatch m = played(3, "4w x 12n x x");
        int[][] want = {{5, 2, 5}, {9, 5, 4}, {9, 6, 0}};
        for (int k = 0; k < 3; k++) {
            for (int what = 0; what < 3; what++) {
                due("fall", m.fall(0, k, what), want[k][what]);
            }
        }
        due("no fourth", m.fall(0, 3, 0), CutMatch.NONE);
        due("-1", m.fall(0, -1, 0), CutMatch.NONE);
        due("what 3", m.fall(0, 0, 3), CutMatch.NONE);
        due("what -1", m.fall(0, 0, -1), CutMatch.NONE);
        due("innings 2", m.fall(2, 0, 0), CutMatch.NONE);
        due("none of the second", m.fall(1, 0, 0), CutMatch.NONE);
        due("last", m.lastStand(0), 0);
        due("best", m.bestStand(0), 5);
        due("came", events(m, "6"), 1);
        due("last", m.lastStand(0), 6);
        due("best is the last", m.bestStand(0), 6);
        due("came", events(m, "x1"), 2);
        due("last of four", m.lastStand(0), 1);
        due("best of five", m.bestStand(0), 6);
        due("not begun", m.lastStand(1), 0);
        due("not begun", m.bestStand(1), 0);
        due("no wicket", played(3, "24").lastStand(0), 6);
        CutMatch ten = played(3, "xxxxxx1xxx3x");
        due("ten", ten.lastStand(0), CutMatch.NONE);
        due("ten", ten.bestStand(0), 3);
        due("tenth", ten.fall(0, 9, 0), 4);
        due("tenth", ten.fall(0, 9, 1), 12);
        due("eleventh", ten.fall(0, 10, 0), CutMatch.NONE);
        for (int v : new int[] {Integer.MIN_VALUE, -1, 2, Integer.MAX_VALUE}) {
            due("no such innings", m.lastStand(v), CutMatch.NONE);
            due("no such innings", m.bestStand(v), CutMatch.NONE);
            due("no such innings", m.made(v, 0), CutMatch.NONE);
            due("no such innings", m.bestOver(v), CutMatch.NONE);
            due("no such innings", m.rate(v, false), CutMatch.NONE);
            due("no such innings", m.fall(v, 0, 0), CutMatch.NONE);
        }
    }

    // Promises 23, 24, 25
    private static void madeBestOverRate() {
        CutMatch m = played(3, "0x441w");
        due("0 and x", m.made(0, 0), 2);
        due("1 without w", m.made(0, 1), 1);
        due("4", m.made(0, 4), 2);
        due("6", m.made(0, 6), 0);
        due("7", m.made(0, 7), CutMatch.NONE);
        due("-1", m.made(0, -1), CutMatch.NONE);
        due("six times 10 by 5", m.rate(0, false), 12);
        due("lower", m.rate(0, true), 1);
        due("came", events(m, "0 n 5 4 x"), 5);
        // nine balls: 0x441 0 5 4 x; 20 runs with w and n
        due("120 by 9", m.rate(0, false), 40);
        due("lower", m.rate(0, true), 3);
        due("OVER 1 has 10, OVER 0 has 10: the first", m.bestOver(0), 0);
        due("came", events(m, "w"), 1);
        due("now OVER 1", m.bestOver(0), 1);
        due("not yet", m.bestOver(1), CutMatch.NONE);
        due("not yet", m.rate(1, false), CutMatch.NONE);
        due("not yet", m.rate(1, true), CutMatch.NONE);
        CutMatch dot = played(3, "0");
        due("a ball, no run", dot.bestOver(0), 0);
        due("0 by 1", dot.rate(0, false), 0);
        due("0 by 1", dot.rate(0, true), 1);
        CutMatch wide = played(3, "w");
        due("a run, no ball", wide.bestOver(0), 0);
        due("no ball yet", wide.rate(0, true), CutMatch.NONE);
    }

    // Promise 26
    private static void projections() {
        CutMatch m = withOvers(2);
        due("nothing used", m.projected(), CutMatch.NONE);
        due("a run, nothing used", played(2, "w").projected(), CutMatch.NONE);
        due("came", events(m, "4"), 1);
        due("4 of 250 in 3000", m.projected(), 48);
        due("came", events(m, "x"), 1);
        // left 10 balls of 9 wickets: 2250; 4 times 3000 by 750
        due("wickets count", m.projected(), 16);
        due("came", events(m, "c 1"), 1);
        // the cut takes 6 times 225; PART 1650, left 900; 4 times 1650 by 750, cut
        due("by PART", m.projected(), 8);
        due("came", events(m, "/"), 1);
        due("first not in play", m.projected(), CutMatch.NONE);
    }

    // Promises 27, 28
    private static void targetAndPar() {
        CutMatch m = withOvers(4);
        due("first in play", m.target(), CutMatch.NONE);
        due("first in play", m.par(), CutMatch.NONE);
        due("came", events(m, "6".repeat(5) + "x" + "0".repeat(18)), 24);
        // S 30, P 6000, Q 6000
        due("S and 1", m.target(), 31);
        due("nothing used", m.par(), 0);
        due("came", events(m, "d3"), 1);
        due("30 times 4500 by 6000, cut, and 1", m.target(), 23);
        due("came", events(m, "1x"), 2);
        // left 16 balls of 9: 3600; Q 900: 30 times 900 by 6000, cut: 4
        due("par", m.par(), 4);
        due("came", events(m, "c 2"), 1);
        // takes 6 times 225: Q 3150: 15.75
        due("target", m.target(), 16);
        due("par", m.par(), 4);
        due("came", events(m, "/"), 1);
        due("target of the CLOSED one", m.target(), 16);
        due("over", m.par(), CutMatch.NONE);
        CutMatch none = played(4, "/");
        due("P is 0", none.target(), CutMatch.NONE);
        due("P is 0", none.par(), CutMatch.NONE);
        CutMatch more = played(20, "4 c 10 /");
        // PART 30000 - 15000 - 59 times 250: 250; Q 30000: 4, 150 times 29750 by 30000 and 1
        due("MEAN", more.target(), 4 + 148 + 1);
        due("par nothing used", more.par(), 0);
        due("came", events(more, "00"), 2);
        // Q 500: 4 and 150 times 250 by 30000 (1)
        due("par above P", more.par(), 5);
        CutMatch flat = new CutMatch();
        due("rows", table(flat, Run.allRows(1)), 10);
        due("FULL", flat.count(3), 30);
        due("came", events(flat, "4".repeat(90)), 90);
        due("nothing used of 30 and more", flat.projected(), CutMatch.NONE);
        due("came", events(flat, "0"), 1);
        due("1 of 30 used", flat.projected(), 10800);
        due("came", events(flat, "/"), 1);
        // P 1, Q 30: 360, 150 times 29 by 30 and 1
        due("P is 1", flat.target(), 360 + 145 + 1);
        CutMatch mean = new CutMatch();
        due("set", mean.set(1, 400), true);
        due("came", events(mean, "4c10/"), 3);
        due("MEAN 400", mean.target(), 4 + 400 * 29750 / 30000 + 1);
    }

    private static void endIs(CutMatch m, int result, int margin) {
        due("result", m.result(), result);
        due("margin", m.margin(), margin);
    }

    // Promises 29, 30
    private static void resultAndMargin() {
        endIs(played(1, ""), CutMatch.NONE, CutMatch.NONE);
        endIs(played(1, "400000 2"), CutMatch.NONE, CutMatch.NONE);
        endIs(played(1, "400000 200000"), 1, 2);
        endIs(played(1, "400000 4x0000"), 3, 0);
        endIs(played(1, "400000 4xx1"), 2, 8);
        endIs(played(1, "400000 4xx6"), 2, 8);
        endIs(played(1, "/ 666666"), 0, 0);
        endIs(played(1, "/ /"), 0, 0);
        endIs(played(1, "400000 3/"), 0, 0);
        // LEAST 5: 29 balls are too few, 30 are enough. S 60, P 9000 (6 overs).
        String first = "6".repeat(10) + "0".repeat(26);
        String twentyNine = "2".repeat(24) + "00000";
        endIs(played(6, first + twentyNine + "/"), 0, 0);
        // 30 balls of no wicket: Q 7500: PAR 50
        endIs(played(6, first + twentyNine + "0/"), 1, 2);
        endIs(played(6, first + twentyNine + "2/"), 3, 0);
        endIs(played(6, first + twentyNine + "5/"), 2, 3);
        // The tenth wicket: by THE TARGET less 1, not by PAR, and LEAST does not count.
        endIs(played(6, first + "4" + "x".repeat(10)), 1, 56);
        // A cut that ends it is not CLOSED: S 60 by 1500 of 9000: THE TARGET 11.
        endIs(played(6, first + "500000 c1"), 1, 5);
        endIs(played(6, first + "550000 c1"), 3, 0);
        CutMatch least = withOvers(6);
        due("set", least.set(2, 1), true);
        due("came", events(least, first + "00000/") > 0, true);
        endIs(least, 0, 0);
        due("clear", least.clear(), 42);
        due("came", events(least, first + "000000/") > 0, true);
        endIs(least, 1, 10);
    }

    // Promise 31
    private static void needs() {
        CutMatch m = played(2, "6600000000");
        for (int what = 0; what < 4; what++) {
            due("first in play", m.needs(what), CutMatch.NONE);
        }
        due("came", events(m, "00 3 0 0"), 5);
        due("runs", m.needs(0), 10);
        due("balls", m.needs(1), 9);
        due("60 by 9", m.needs(2), 20);
        due("60 by 9", m.needs(3), 3);
        due("what 4", m.needs(4), CutMatch.NONE);
        due("what -1", m.needs(-1), CutMatch.NONE);
        for (int v : STRANGE) {
            due("strange", m.needs(v), CutMatch.NONE);
        }
        due("came", events(m, "/"), 1);
        for (int what = 0; what < 4; what++) {
            due("over", m.needs(what), CutMatch.NONE);
            due("P is 0", played(2, "/").needs(what), CutMatch.NONE);
        }
    }

    private static void brokenIs(String text, int... want) {
        CutMatch m = played(2, text);
        due("a tie: " + text, m.result(), 3);
        for (int rule = 0; rule < 4; rule++) {
            due("broken " + rule + ": " + text, m.broken(rule), want[rule]);
        }
        due("no such RULE", m.broken(4), CutMatch.NONE);
        due("no such RULE", m.broken(-1), CutMatch.NONE);
    }

    // Promise 32
    private static void brokenTies() {
        // BLOCKS of 2 overs: 12, 18, 10: two left, to SECOND and FIRST.
        brokenIs("222222000000 222222000000", 0, 0, 0, 0);
        brokenIs("222222000000 22222x200000", 1, 1, 0, 1);
        brokenIs("22222x200000 222222000000", 2, 2, 0, 2);
        brokenIs("444000000000 000000622200", 0, 1, 1, 0);
        brokenIs("000000622200 444000000000", 0, 2, 2, 0);
        brokenIs("400000600000 622000000000", 0, 2, 1, 2);
        brokenIs("460000000000 442000000000", 0, 0, 0, 0);
        brokenIs("660000000000 444000000000", 0, 0, 2, 0);
        brokenIs("122122000000 000111222 w00 0", 0, 1, 0, 1);
        CutMatch won = played(2, "222222000000 666");
        due("not a tie", won.result(), 2);
        due("not a tie", won.broken(0), CutMatch.NONE);
        due("not over", played(2, "1").broken(0), CutMatch.NONE);
    }

    // Promises 33, 34, 35, 36
    private static void whatWouldBe() {
        CutMatch m = withOvers(6);
        due("first in play", m.ifCut(3), CutMatch.NONE);
        due("first in play", m.ifClosed(), CutMatch.NONE);
        due("first in play", m.ifRuns(3), CutMatch.NONE);
        due("first in play", m.leastCut(0), CutMatch.NONE);
        due("came", events(m, "6".repeat(10) + "0".repeat(26) + "4x00001"), 43);
        // S 60, P 9000, 7 balls, 1 wicket, 5 runs; a cut to n takes (36 - 6 n) times 225.
        int[] want = {CutMatch.NONE, CutMatch.NONE, 60 * 3600 / 9000 + 1, 60 * 4950 / 9000 + 1,
            60 * 6300 / 9000 + 1, 60 * 7650 / 9000 + 1, CutMatch.NONE, CutMatch.NONE};
        for (int n = 0; n < want.length; n++) {
            due("ifCut " + n, m.ifCut(n), want[n]);
        }
        due("all as it was", m.target(), 61);
        due("overs as they were", innings(m, 1, 3), 6);
        // targets 25, 34, 43, 52 less 5 runs
        due("leastCut", m.leastCut(Integer.MIN_VALUE), 2);
        due("leastCut", m.leastCut(20), 2);
        due("leastCut", m.leastCut(21), 3);
        due("leastCut", m.leastCut(29), 3);
        due("leastCut", m.leastCut(30), 4);
        due("leastCut", m.leastCut(47), 5);
        due("leastCut", m.leastCut(48), CutMatch.NONE);
        due("leastCut", m.leastCut(Integer.MAX_VALUE), CutMatch.NONE);
        due("too few balls", m.ifClosed(), 0);
        due("in play still", m.count(1), 1);
        due("came", events(m, "5".repeat(8) + "0".repeat(15)), 23);
        // 30 balls, 45 runs, left 6 of 9: 1350: Q 7650: 51
        due("fewer", m.ifClosed(), 1);
        due("came", m.back(), 65);
        due("29 balls", m.ifClosed(), 0);
        due("came", events(m, "4w"), 2);
        due("50", m.ifClosed(), 1);
        due("came", events(m, "w"), 1);
        due("51", m.ifClosed(), 3);
        due("came", events(m, "n"), 1);
        due("52", m.ifClosed(), 2);
        due("ifRuns", m.ifRuns(0), 1);
        due("ifRuns", m.ifRuns(60), 61);
        due("ifRuns", m.ifRuns(999), 1000);
        due("ifRuns", m.ifRuns(1000), CutMatch.NONE);
        due("ifRuns", m.ifRuns(-1), CutMatch.NONE);
        due("came", events(m, "/"), 1);
        due("over", m.ifCut(5), CutMatch.NONE);
        due("over", m.leastCut(0), CutMatch.NONE);
        due("over", m.ifClosed(), CutMatch.NONE);
        due("as target()", m.ifRuns(60), 61);
        CutMatch none = played(6, "/0");
        due("P is 0", none.ifCut(3), CutMatch.NONE);
        due("P is 0", none.leastCut(0), CutMatch.NONE);
        due("P is 0", none.ifRuns(3), CutMatch.NONE);
        due("P is 0", none.ifClosed(), 0);
        for (int v : STRANGE) {
            due("strange", m.ifCut(v), CutMatch.NONE);
            due("strange", m.ifRuns(v), CutMatch.NONE);
        }
        CutMatch less = played(6, "6".repeat(10) + "0".repeat(26) + "d3");
        due("of fewer overs", less.ifRuns(100), 51);
        due("to its balls", played(2, "6".repeat(12) + "000000").ifCut(1), 37);
        due("to one over", played(2, "6".repeat(12) + "0").leastCut(0), 1);
        due("to nineteen overs", played(20, "6".repeat(120)).leastCut(684), 19);
        due("more than that", played(20, "6".repeat(120)).leastCut(686), CutMatch.NONE);
    }

    private static void aFullLog() {
        CutMatch m = played(2, "0".repeat(12) + "/");
        due("came", m.clear(), 13);
        due("came", events(m, "6".repeat(6) + "w".repeat(370) + "000000"), 382);
        due("came", events(m, "w".repeat(17)), 17);
        due("399", m.ifCut(1) != CutMatch.NONE, true);
        due("came", events(m, "w"), 1);
        due("400: no CUT can come", m.ifCut(1), CutMatch.NONE);
        due("400: no CUT can come", m.leastCut(0), CutMatch.NONE);
        due("400: no CUT can come", m.play('c', 1), CutMatch.NONE);
        due("back", m.back(), 399);
        due("399", m.play('c', 1), 400);
    }

    // Promises 37, 38
    private static void afterAndFirstAhead() {
        CutMatch m = withOvers(2);
        due("never", m.firstAhead(), CutMatch.NONE);
        due("behind none", m.after(0, 0), 0);
        due("no target", m.after(0, 4), CutMatch.NONE);
        due("no par", m.after(0, 5), CutMatch.NONE);
        due("not so many", m.after(1, 0), -2);
        due("not so many", m.after(-1, 0), -2);
        due("came", events(m, "6x0w/ d1 1 0 c"), CutMatch.NONE);
        due("came", events(m, "6x0w/ d1 0 4 6"), 9);
        // P: 3000 less 9 times 225, 975; S 7; Q 1500: 7, 150 times 525 by 30000 (2) and 1.
        int[][] want = {
            {0, 0, 0, 0, -1, -1}, {0, 6, 0, 1, -1, -1}, {0, 6, 1, 2, -1, -1}, {0, 6, 1, 3, -1, -1},
            {0, 7, 1, 3, -1, -1}, {1, 0, 0, 0, 7 + 10 + 1, 0}, {1, 0, 0, 0, 10, 0},
            {1, 0, 0, 1, 10, 1}, {1, 4, 0, 2, 10, 3}, {2, 10, 0, 3, 10, -1}};
        for (int k = 0; k < want.length; k++) {
            for (int what = 0; what < 6; what++) {
                due("after(" + k + ", " + what + ")", m.after(k, what), want[k][what]);
            }
            due("what 6", m.after(k, 6), -2);
            due("what -1", m.after(k, -1), -2);
        }
        due("not so many", m.after(10, 0), -2);
        for (int v : STRANGE) {
            due("strange", m.after(v, 0), -2);
            due("strange", m.after(0, v), -2);
        }
        due("ahead of 3 by 4", m.firstAhead(), 8);
        due("now as it was", m.count(1), 2);
        due("back", m.back(), 8);
        due("still", m.firstAhead(), 8);
        due("back", m.back(), 7);
        due("behind", m.firstAhead(), CutMatch.NONE);
        // Won with one ball: never ahead while in play.
        due("in play alone", played(1, "400000 6").firstAhead(), CutMatch.NONE);
        due("P is 0", played(2, "/ 666").firstAhead(), CutMatch.NONE);
        due("w ahead of par 0", played(2, "6/ w").firstAhead(), 3);
    }

    public static void main(String[] args) {
        aNewObject();
        feedAndEnd();
        tableTold();
        tableFaults();
        eventsTold();
        eventFaults();
        settings();
        playBackClear();
        countWorthTold();
        inningsAndCuts();
        howInningsEnd();
        overs();
        blocks();
        stands();
        madeBestOverRate();
        projections();
        targetAndPar();
        resultAndMargin();
        needs();
        brokenTies();
        whatWouldBe();
        aFullLog();
        afterAndFirstAhead();
        System.out.println(asked + " asked, " + wrong + " not as due");
        if (wrong != 0) {
            System.exit(1);
        }
    }
}
