/** The bounds of Term 4 and of promises 2 to 6: the TAPE, TABLES, EVENTS as texts, FAULTS. */
public final class TextBoundsTest {
    private static final int NONE = Run.NONE;

    /** A row that fits ahead of row 1 as it is at first. */
    private static final String ROW = "row 0 400 600 800 900;";

    private static void ahead(Run run) {
        run.due(1, "set 0 3").came("4x1w c2 d2");
    }

    private static void tableFault(String text, int kind, int place) {
        Run.refuses(TextBoundsTest::ahead, "table", text, kind, place);
    }

    private static void eventsFault(String text, int kind, int place) {
        Run.refuses(TextBoundsTest::ahead, "events", text, kind, place);
    }

    private static void tableFine(String text, int rows) {
        new Run().came("4").table(rows, text).due(0, "fault", "count 0", "count 2");
    }

    private static boolean isDigit(int sign) {
        return sign >= '0' && sign <= '9';
    }

    private static boolean isBlank(int sign) {
        return sign == 32 || sign == 10;
    }

    // ---- Promise 2

    /** "NONE, and none come: more than 500". */
    private static void feed() {
        Run m = new Run();
        for (int k = 1; k <= 25; k++) {
            m.due(20 * k, "feed 0 0 0 0 0");
        }
        m.due(NONE, "feed 0 0 0 0 0").due(500, "count 2").due(NONE, "feed MIN MAX -1 0 1").due(500, "count 2");
        m.due(1, "end 481").due(NONE, "feed 0 0 0 0 0").due(481, "count 2");
        m.due(1, "end 480").due(500, "feed 0 0 0 0 0").due(NONE, "feed 0 0 0 0 0");
        m.due(1, "end 0").due(20, "feed 0 0 0 0 0");
        // What is refused is not there later: the bytes behind 490 are those that come behind them.
        Run.leaves(run -> run.tell("w".repeat(481)), NONE, "feed 0 0 0 0 0");
        new Run().tell(" ".repeat(481)).due(NONE, "feed -1 -1 -1 -1 -1").due(1, "end 480").tell("w".repeat(20))
            .due(20, "events");
    }

    /** "of each number the highest first": the highest byte of one is the sign of its number. */
    private static void highestFirst() {
        int word = '1' << 24 | '2' << 16 | '3' << 8 | 'x';
        new Run().due(20, "feed " + word + " 538976288 538976288 538976288 " + (0x20202000 | '6'))
            .due(5, "events").due(1, "made 0 1", "made 0 2", "made 0 3", "made 0 0", "made 0 6").due(4, "fall 0 0 1");
        // 0xB1 is not '1' with a sign.
        new Run().due(20, "feed " + 0xB1202020 + " 0 0 0 0").due(1, "end 1").due(NONE, "events").due(1, "fault");
        new Run().due(20, "feed -1 -1 -1 -1 -1").due(NONE, "table").due(1, "fault");
    }

    // ---- Promise 3

    /** "false: it has not so many, n is below 0". */
    private static void end() {
        new Run().due(0, "end -1", "end 1", "end MIN", "end MAX").due(1, "end 0").due(0, "count 2");
        Run m = new Run().due(20, "feed 0 0 0 0 0").due(0, "end 21", "end -1").due(20, "count 2");
        m.due(1, "end 20").due(20, "count 2").due(1, "end 19").due(19, "count 2").due(0, "end 20").due(19, "count 2");
        m.due(1, "end 0").due(0, "count 2", "end 1");
        for (String call : new String[] {"end 4", "end -1", "end MIN", "end MAX"}) {
            Run.leaves(run -> run.tell("123"), 0, call);
        }
        Run.leaves(run -> run.tell("123"), 1, "end 3");
        new Run().tell("123").due(1, "end 2").due(2, "events").due(3, "innings 0 0");
        // 500 is the most that end can be told.
        new Run().tell(" ".repeat(500)).due(0, "end 501").due(1, "end 500").due(500, "count 2");
    }

    // ---- Term 4: how long

    /** "TEXTS, at most 500 bytes". */
    private static void longest() {
        String rows = "row 9 1 2 3 4;".repeat(35);
        tableFine(rows + " ".repeat(10), 35);
        tableFine(" ".repeat(9) + rows + "\n", 35);
        tableFault(rows + "row       ", 1, 500);
        tableFault(rows + "         ;", 1, 499);
        tableFault(rows + "         r", 1, 499);
        tableFault(rows.substring(0, 476) + "row 9 2 1 3 4;" + " ".repeat(10), 4, 500);
        new Run().events(400, "w".repeat(400) + " ".repeat(100)).due(0, "fault");
        new Run().events(400, " ".repeat(100) + "w".repeat(400)).due(400, "innings 0 0");
        new Run().events(0, " ".repeat(500)).due(0, "fault").table(0, "\n".repeat(500)).due(0, "fault");
        eventsFault("w".repeat(250) + " ".repeat(249) + "7", 1, 499);
        eventsFault("w".repeat(250) + " ".repeat(249) + "c", 1, 500);
        eventsFault("d" + "1".repeat(499), 2, 1);
        tableFault("row" + "1".repeat(497), 2, 3);
        tableFault("r".repeat(500), 1, 0);
    }

    // ---- Term 4: TOKENS

    /** Every byte alone: EVENTS that need no number come, blanks are nothing, the rest can't stand there. */
    private static void everyByteAlone() {
        for (int sign = 0; sign < 256; sign++) {
            String text = String.valueOf((char) sign);
            if (isBlank(sign)) {
                new Run().events(0, text).due(0, "fault").table(0, text).due(0, "fault");
            } else if ("0123456xwn/".indexOf(sign) >= 0) {
                new Run().events(1, text).due(0, "fault").table(NONE, text).due(1, "fault");
            } else {
                boolean bearsNumber = sign == 'c' || sign == 'd';
                Run m = new Run().events(NONE, text).due(bearsNumber ? 1 + 8 : 1, "fault").due(0, "count 0");
                m.table(NONE, text).due(1, "fault");
            }
        }
    }

    /** Every byte between two TOKENS: "Blanks (32, 10) between TOKENS or not". */
    private static void everyByteBetween() {
        for (int sign = 0; sign < 256; sign++) {
            char c = (char) sign;
            if (isBlank(sign)) {
                new Run().events(2, "1" + c + "2").due(0, "fault");
                new Run().events(1, "c" + c + "2").due(2, "innings 0 3");
                tableFine(ROW.substring(0, 21) + c + ";", 1);
                tableFine("row" + c + ROW.substring(4), 1);
                tableFine("row" + c + "0" + c + "400" + c + "600" + c + "800" + c + "900;", 1);
            } else {
                byteBehindRowWord(c);
                byteBehindNumber(c);
                byteBehindC(c);
            }
        }
    }

    private static void byteBehindRowWord(char c) {
        String text = "row" + c + "0 400 600 800 900;";
        if (c == '0') {
            tableFine(text, 1);
        } else {
            boolean letter = c >= 'a' && c <= 'z';
            int fault = isDigit(c) ? 2 + 8 * 3 : letter ? 1 : 1 + 8 * 3;
            new Run().table(NONE, text).due(fault, "fault").due(250, "told 0 1");
        }
    }

    private static void byteBehindNumber(char c) {
        // A digit makes 900 a number of four digits, above 1000; a second ; is the one that can't stand.
        int fault = isDigit(c) ? 2 + 8 * 18 : c == ';' ? 1 + 8 * 22 : 1 + 8 * 21;
        new Run().table(NONE, ROW.substring(0, 21) + c + ";").due(fault, "fault").due(250, "told 0 1");
    }

    private static void byteBehindC(char c) {
        String text = "c" + c + "2";
        if (c == '0' || c == '1') {
            new Run().events(1, text).due(c == '0' ? 2 : 12, "innings 0 3");
        } else {
            new Run().events(NONE, text).due(isDigit(c) ? 2 + 8 : 1 + 8, "fault").due(0, "count 0");
        }
    }

    /** "as many as stand there": words, NUMBERS; "else single bytes". */
    private static void tokens() {
        tableFine("", 0);
        tableFine(ROW.replace(" ", "\n"), 1);
        tableFine("row0 400 600 800 900;", 1);
        tableFine("row0 400 600 800 900;row 1 225 450 675 900;", 2);
        tableFine("  row 0 400 600 800 900 ; \n", 1);
        tableFault("ro w 0 400 600 800 900;", 1, 0);
        tableFault("rowrow 0 400 600 800 900;", 1, 0);
        tableFault("row row 0 400 600 800 900;", 1, 4);
        tableFault("ro", 1, 0);
        tableFault("r", 1, 0);
        tableFault(" Row 0 400 600 800 900;", 1, 1);
        tableFault("rOw 0 400 600 800 900;", 1, 0);
        tableFault("roW 0 400 600 800 900;", 1, 0);
        tableFault("qow 0 400 600 800 900;", 1, 0);
        tableFault("sow 0 400 600 800 900;", 1, 0);
        tableFault("rnw 0 400 600 800 900;", 1, 0);
        tableFault("rpw 0 400 600 800 900;", 1, 0);
        tableFault("rov 0 400 600 800 900;", 1, 0);
        tableFault("rox 0 400 600 800 900;", 1, 0);
        tableFault("row -1 400 600 800 900;", 1, 4);
        // EVENTS: a digit is a ball, but behind c, d all digits are one number.
        new Run().events(3, "123").due(6, "innings 0 0");
        new Run().events(2, "c12 3").due(12, "innings 0 3").due(3, "innings 0 0");
        new Run().events(2, "c\n 12\n3").due(12, "innings 0 3").due(3, "innings 0 0");
        new Run().events(2, "d1w").due(1, "innings 1 3", "innings 0 0");
        new Run().events(3, "c9c8d7").due(8, "innings 0 3").due(7, "innings 1 3");
        eventsFault("c 1 23 7", 1, 7);
        eventsFault("w c123", 2, 3);
    }

    /** A TABLE that stops, or has one TOKEN too many: the end's place is the text's length. */
    private static void tablesThatStop() {
        String[] stops = {"row", "row 0", "row 0 400", "row 0 400 600", "row 0 400 600 800", "row 0 400 600 800 900"};
        for (String text : stops) {
            tableFault(text, 1, text.length());
            tableFault(text + " \n", 1, text.length() + 2);
            tableFault(ROW + text, 1, 22 + text.length());
            if (!text.endsWith("900")) {
                tableFault(text + ";", 1, text.length());
                tableFault(text + " ;", 1, text.length() + 1);
                tableFault(text + " row", 1, text.length() + 1);
            }
        }
        tableFault("row 0 400 600 800 900 1;", 1, 22);
        tableFault("row 0 400 600 800 900 row", 1, 22);
        tableFault(ROW + ";", 1, 22);
        tableFault(ROW + " 1", 1, 23);
        tableFault(";", 1, 0);
        eventsFault("c", 1, 1);
        eventsFault("c\n ", 1, 3);
        eventsFault("d", 1, 1);
        eventsFault("d ", 1, 2);
        eventsFault("4 c w", 1, 4);
        eventsFault("4 dd", 1, 3);
        eventsFault("4 c/", 1, 3);
    }

    // ---- Term 4: NUMBERS

    /** "w; the four, 1 to 1000", "(more than 4 digits, too)". */
    private static void tableNumbers() {
        tableFine("row 9 1 1 1 1;", 1);
        tableFine("row 0009 1 1 1 1;", 1);
        tableFine("row 0000 400 600 800 900;", 1);
        tableFault("row 00009 1 1 1 1;", 2, 4);
        tableFault("row 00000 400 600 800 900;", 2, 4);
        tableFault("row 10 1 1 1 1;", 2, 4);
        tableFault("row 4294967296 400 600 800 900;", 2, 4);
        tableFine("row 0 1000 1000 1000 1000;", 1);
        tableFine("row 9 0001 1 1 1;", 1);
        String[] bad = {"0", "0000", "00000", "00001", "1001", "9999", "01000", "10000", "4294967297"};
        for (String number : bad) {
            tableFault("row 0 " + number + " 1000 1000 1000;", 2, 6);
            tableFault("row 0 1000 " + number + " 1000 1000;", 2, 11);
            tableFault("row 0 1000 1000 " + number + " 1000;", 2, 16);
            tableFault("row 0 1000 1000 1000 " + number + ";", 2, 21);
        }
    }

    private static void eventNumbers() {
        Run two = new Run().events(1, "c0002").due(2, "innings 0 3").events(1, "d0001").due(1, "innings 1 3");
        two.events(NONE, "c00001").due(2 + 8, "fault").due(2, "innings 0 3");
        // The innings ahead of these has two overs and three balls; d is at two overs, too.
        String[] bad = {"0", "0000", "00001", "2", "3", "20", "21", "9999", "10000", "4294967297"};
        for (String number : bad) {
            eventsFault("w c " + number, 2, 4);
            eventsFault("w d" + number, 2, 3);
        }
        new Run().events(1, "c19").events(NONE, "c19").due(2 + 8, "fault").events(NONE, "c20").due(2 + 8, "fault");
        new Run().events(1, "d19").events(NONE, "d19").due(2 + 8, "fault").events(NONE, "d20").due(2 + 8, "fault");
        new Run().events(NONE, "000000c0").due(2 + 8 * 7, "fault").events(7, "000000c1").due(1, "count 1");
        new Run().events(NONE, "0000000c1").due(2 + 8 * 8, "fault").events(8, "0000000c2").due(0, "count 1");
    }

    // ---- Term 4: EVENTS that can't come

    /** "3 an EVENT that can't come (no innings in play; d too late), more than 400". */
    private static void cantCome() {
        for (String event : new String[] {"0", "1", "2", "3", "4", "5", "6", "x", "w", "n", "c1", "c", "d1", "d",
            "/"}) {
            Run.refuses(run -> run.came("1//"), "events", event, 3, 0);
            Run.refuses(run -> run.came("1/"), "events", "/ " + event, 3, 2);
            Run.refuses(run -> run.came("w".repeat(400)), "events", event, 3, 0);
            Run.refuses(run -> run.came("w".repeat(399)), "events", "w\n" + event, 3, 2);
        }
        for (String late : new String[] {"d1", "d", "d 0", "d 99999", "dd"}) {
            Run.refuses(run -> run.came("1/w"), "events", late, 3, 0);
            Run.refuses(run -> run.came("1/d9"), "events", "0 " + late, 3, 2);
        }
        new Run().came("1/").events(2, "d9 d8").events(1, "w").events(NONE, "d7").due(3, "fault");
        Run.refuses(run -> run.due(1, "set 0 1"), "events", "1000002w", 3, 7);
        new Run().due(1, "set 0 1").events(7, "1000002").due(2, "count 1");
        new Run().came("w".repeat(399)).events(1, "w").due(400, "count 0").events(0, " ").due(0, "fault");
        new Run().events(400, "w".repeat(400)).due(0, "fault");
        Run.refuses(run -> { }, "events", "w".repeat(401), 3, 400);
        Run.refuses(run -> { }, "events", "w".repeat(400) + "c 1", 3, 400);
    }

    /** "the first along the text, of one place the least". */
    private static void firstFault() {
        for (String nothing : new String[] {"7", ";", "q", "\t"}) {
            Run.refuses(run -> run.came("1//"), "events", nothing, 1, 0);
            Run.refuses(run -> run.came("w".repeat(400)), "events", " " + nothing, 1, 1);
        }
        eventsFault("4 7 c0", 1, 2);
        eventsFault("4 c0 7", 2, 3);
        eventsFault("//w7", 3, 2);
        eventsFault("//7w", 1, 2);
        eventsFault("c 77777 q", 2, 2);
        tableFault("row 10 0 q", 2, 4);
        tableFault("row q 10 0", 1, 4);
        tableFault("row 0 1 0", 2, 8);
        // A row that falls is told only where nothing else is wrong.
        tableFault("row 0 4 3 2 1; q", 1, 15);
        tableFault("row 0 4 3 2 1; row 10", 2, 19);
        tableFault("row 0 4 3 2 1", 1, 13);
        tableFault("row 0 4 3 2 1;", 4, 14);
        tableFault("row 0 4 3 2 1; \n", 4, 16);
    }

    // ---- Term 4: rows that fall

    private static int atFirst(int w, int k) {
        return 25 * k * (10 - w);
    }

    private static String rowWith(int w, int at, int v) {
        StringBuilder text = new StringBuilder("row ").append(w);
        for (int k = 1; k <= 4; k++) {
            text.append(' ').append(k == at ? v : atFirst(w, k));
        }
        return text.append(';').toString();
    }

    /** Each number of the TABLE at its highest and lowest, and one beyond. */
    private static void everyNumber() {
        for (int w = 0; w < 10; w++) {
            for (int k = 1; k <= 4; k++) {
                int high = Math.min(k == 4 ? 1000 : atFirst(w, k + 1), w == 0 ? 1000 : atFirst(w - 1, k));
                int low = Math.max(Math.max(1, atFirst(w, k - 1)), w == 9 ? 1 : atFirst(w + 1, k));
                new Run().table(1, rowWith(w, k, high)).due(high, "told " + w + " " + k).due(0, "fault");
                new Run().table(1, rowWith(w, k, low)).due(low, "told " + w + " " + k).due(0, "fault");
                beyond(w, k, high + 1);
                beyond(w, k, low - 1);
            }
        }
    }

    private static void beyond(int w, int k, int v) {
        String text = rowWith(w, k, v);
        boolean cantBe = v < 1 || v > 1000;
        int place = "row 0".length();
        for (int ahead = 1; ahead < k; ahead++) {
            place += 1 + String.valueOf(atFirst(w, ahead)).length();
        }
        int fault = cantBe ? 2 + 8 * (place + 1) : 4 + 8 * text.length();
        new Run().table(NONE, text).due(fault, "fault").due(atFirst(w, k), "told " + w + " " + k);
    }

    /** "(all rows as they would be)": what one row breaks another one may mend, in either order. */
    private static void allRows() {
        tableFault("row 1 250 500 750 1000;row 2 226 450 675 900;row 1 225 450 675 900;", 4, 67);
        tableFine("row 1 250 500 750 1000;row 2 250 450 675 900;", 2);
        tableFine("row 2 250 450 675 900;row 1 250 500 750 1000;", 2);
        tableFault("row 2 250 450 675 900;", 4, 22);
        tableFine("row 3 9 8 7 6;row 3 175 350 525 700;", 2);
        tableFault("row 3 175 350 525 700;row 3 9 8 7 6;", 4, 36);
        tableFault("row 0 1 1 1 1;", 4, 14);
        // Rows of an earlier TABLE stay, and the next one is measured by them.
        Run m = new Run().table(1, "row 9 1 1 1 1;").table(1, "row 8 1 1 1 1;").due(1, "told 8 4", "told 9 1");
        m.table(NONE, "row 9 2 2 2 2;").due(4 + 8 * 14, "fault").due(1, "told 9 1").table(1, "row 8 2 2 2 2;");
        m.table(1, "row 9 2 2 2 2;").due(2, "told 9 1", "told 9 4").due(175, "told 3 1");
    }

    // ---- Promises 4, 5, 6

    /** "(the LOG is empty then)", without a row, too; "rows not told stay"; SETTINGS stay. */
    private static void tableEmptiesLog() {
        Run none = new Run().due(1, "set 0 7").came("4x/").table(0, "").due(0, "count 0", "count 1", "innings 0 0");
        none.due(7, "count 10").due(0, "fault").due(900, "told 1 4");
        Run.alike(run -> run.table(1, ROW), run -> run.came("4x/1c9").table(1, ROW));
        Run.alike(run -> run.table(1, ROW).due(1, "set 0 2"), run -> run.due(1, "set 0 2").came("4//").table(1, ROW));
        new Run().tell(ROW).due(1, "table").due(0, "count 2", "table", "events").due(900, "told 0 4");
    }

    /** "behind those there are: how many came", none of a text without, none of an empty TAPE. */
    private static void eventsCome() {
        Run m = new Run().due(0, "events", "fault").events(0, "").events(0, " \n ").events(1, "4").events(2, "xw");
        m.due(3, "count 0").due(0, "count 2", "events").due(5, "innings 0 0");
        // None come of those ahead of the FAULT either, were it the last byte.
        Run.refuses(TextBoundsTest::ahead, "events", "6666666 x c", 1, 11);
        Run.refuses(TextBoundsTest::ahead, "events", "d1 /d", 1, 5);
        Run.refuses(TextBoundsTest::ahead, "events", "6/6/ 6", 3, 5);
        Run.refuses(run -> run.came("1/"), "events", "//", 3, 1);
        Run.alike(run -> run.came("4x1c9 2"), run -> run.events(3, "4x1").events(NONE, "c9 2 7").events(2, "c9 2"));
        Run.alike(run -> run.came("4x1c9 2"), run -> run.due(1, "play '4' 9", "count 0").events(4, "x1c9 2"));
    }

    /** "FAULT of the latest table(), events(); 0 without, and ahead of any": no other call changes it. */
    private static void fault() {
        new Run().due(0, "fault").due(NONE, "play '7' 0", "back").due(0, "fault");
        Run m = new Run().events(NONE, " 7").due(1 + 8, "fault");
        for (String call : new String[] {"play '1' 0", "play '7' 0", "back", "back", "clear", "set 0 7", "set 0 7",
            "feed 0 0 0 0 0", "end 21", "end 0", "after 9 9", "ifCut 1", "count 99", "innings 9 9"}) {
            m.ask(call);
            m.due(1 + 8, "fault");
        }
        m.due(0, "events", "fault").table(NONE, "  7").due(1 + 16, "fault").events(NONE, "7").due(1, "fault");
        m.table(0, "").due(0, "fault").events(NONE, "7").due(1, "fault").events(1, "6").due(0, "fault");
    }

    public static void main(String[] args) {
        feed();
        highestFirst();
        end();
        longest();
        everyByteAlone();
        everyByteBetween();
        tokens();
        tablesThatStop();
        tableNumbers();
        eventNumbers();
        cantCome();
        firstFault();
        everyNumber();
        allRows();
        tableEmptiesLog();
        eventsCome();
        fault();
        Run.close();
    }
}
