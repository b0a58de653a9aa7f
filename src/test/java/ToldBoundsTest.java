/** The bounds of promises 1 and 7 to 13, and for how many calls an object is used. */
public final class ToldBoundsTest {
    private static final int NONE = Run.NONE;
    private static final int[] AT_FIRST = {20, 150, 5, 6, 9};

    private static String dots(int many) {
        return "0".repeat(many);
    }

    /** TABLE, SETTINGS, LOG, TAPE and FAULT are all told. */
    private static void allTold(Run run) {
        run.table(1, "row 9 1 2 3 4;").due(1, "set 0 3", "set 1 90", "set 2 1").came("4x1w c2 d2").tell("123");
    }

    // ---- Promise 1

    private static void newObject() {
        Run m = new Run().due(0, "count 0", "count 1", "count 2", "fault").due(30000, "count 3");
        for (int s = 0; s < 5; s++) {
            m.due(AT_FIRST[s], "count " + (10 + s));
        }
        for (int w = 0; w < 10; w++) {
            for (int k = 1; k <= 4; k++) {
                m.due(25 * k * (10 - w), "told " + w + " " + k);
            }
        }
        // What was told one object is not told another.
        Run.alike(run -> { }, run -> allTold(new Run()));
    }

    // ---- Promise 7

    /** Every number that a SETTING can be, and those beside: "it is so, there is none such, it can't be". */
    private static void settings() {
        int[] least = {1, 1, 1, 0, 0};
        int[] most = {20, 400, 20, 11, 14};
        for (int s = 0; s < 5; s++) {
            int now = AT_FIRST[s];
            for (int v = least[s] - 2; v <= most[s] + 2; v++) {
                boolean can = v >= least[s] && v <= most[s] && v != now;
                new Run().due(1, "play '4' 0").due(can ? 1 : 0, "set " + s + " " + v)
                    .due(can ? v : now, "count " + (10 + s)).due(can ? 0 : 1, "count 0")
                    .due(can ? 0 : 4, "innings 0 0");
            }
            for (String v : new String[] {"" + now, "" + (least[s] - 1), "" + (most[s] + 1), "-1", "MIN", "MAX"}) {
                Run.leaves(run -> run.came("4x1").tell("12"), 0, "set " + s + " " + v);
            }
        }
        for (String s : new String[] {"-1", "5", "10", "MIN", "MAX"}) {
            Run.leaves(run -> run.came("4x1").tell("12"), 0, "set " + s + " 3");
        }
    }

    /** "0 to 20 (6, 9), 20 together at most": also where the sum would wrap around. */
    private static void blocksTogether() {
        new Run().due(0, "set 3 12").due(1, "set 3 11").due(0, "set 4 10").due(1, "set 4 8", "set 3 12");
        new Run().due(0, "set 4 15").due(1, "set 4 14").due(0, "set 3 7").due(1, "set 3 5", "set 4 15");
        new Run().due(1, "set 3 0").due(0, "set 4 21").due(1, "set 4 20").due(0, "set 3 1", "set 3 -1", "set 4 20");
        new Run().due(1, "set 4 0").due(0, "set 3 21").due(1, "set 3 20").due(0, "set 4 1", "set 4 -1", "set 3 20");
        new Run().due(0, "set 3 MAX", "set 4 MAX", "set 3 2147483639", "set 4 MIN").due(6, "count 13")
            .due(9, "count 14");
    }

    /** A SETTING that is changed empties the LOG alone; the innings have the new OVERS. */
    private static void settingLeavesTheRest() {
        Run.alike(run -> {
            allTold(run);
            run.due(6, "clear");
        }, run -> run.table(1, "row 9 1 2 3 4;").due(1, "set 0 3", "set 1 90").came("4x1w").tell("123")
            .due(1, "set 2 1"));
        new Run().events(NONE, " 7").due(1, "set 0 4").due(1 + 8, "fault");
        Run m = Run.of(20, "d9/1").due(1, "set 0 1").due(1, "innings 0 3", "innings 1 3").due(1500, "innings 1 4");
        m.due(1, "set 0 20").due(20, "innings 0 3", "innings 1 3").due(30000, "innings 0 4").due(0, "count 1");
    }

    // ---- Promise 8

    /** "the number n with c, d alone": with another EVENT it may be anything; how many there are, from 1 to 400. */
    private static void play() {
        for (String event : new String[] {"0", "6", "x", "w", "n", "/"}) {
            for (String n : new String[] {"MIN", "-1", "0", "21", "MAX"}) {
                Run.alike(run -> run.came(event), run -> run.due(1, "play '" + event + "' " + n));
            }
        }
        Run m = new Run();
        for (int k = 1; k <= 400; k++) {
            m.due(k, "play '" + (k % 2 == 0 ? 'w' : 'n') + "' " + k);
        }
        m.due(NONE, "play 'w' 0").due(400, "count 0", "innings 0 7");
        // A text and single EVENTS are the same.
        Run.alike(run -> run.came("4xc19 d5 w/d4 1c3"), run -> run.due(1, "play '4' 0").due(2, "play 'x' 0")
            .due(3, "play 'c' 19").due(4, "play 'd' 5").due(5, "play 'w' 0").due(6, "play '/' 0")
            .due(7, "play 'd' 4").due(8, "play '1' 0").due(9, "play 'c' 3"));
    }

    /** "NONE: it is none, it can't come, n can't be": nothing comes. */
    private static void playRefused() {
        for (String call : new String[] {"play '7' 0", "play 46 0", "play 0 0", "play 32 0", "play 10 0", "play 'X' 0",
            "play 'c' 0", "play 'c' 2", "play 'd' 0", "play 'd' 2", "play 'c' MIN", "play 'd' MAX"}) {
            Run.leaves(ToldBoundsTest::allTold, NONE, call);
        }
        Run.leaves(run -> run.came("4/1"), NONE, "play 'd' 5");
        Run.leaves(run -> run.came("4//"), NONE, "play 'c' 5");
        Run.leaves(run -> run.came("4//"), NONE, "play '/' 5");
    }

    // ---- Promise 9

    /** Behind every EVENT, of those that end an innings too, back() brings all as it was. */
    private static void back() {
        new Run().due(NONE, "back").due(1, "play '4' 0").due(0, "back").due(NONE, "back").due(0, "count 0");
        Run.leaves(run -> run.tell("12"), NONE, "back");
        String[][] cases = {
            {"1", "", "0"}, {"1", "", "6"}, {"1", "", "x"}, {"1", "", "w"}, {"1", "", "n"}, {"1", "", "/"},
            {"2", "", "c1"}, {"2", "", "d1"}, {"2", dots(6), "c1"}, {"1", dots(5), "0"}, {"2", "xxxxxxxxx", "x"},
            {"3", "4/", "d2"}, {"3", "4/d2 ", "d1"}, {"3", "4/", "0"}, {"3", "4/", "c1"}, {"3", "4/", "/"},
            {"1", "1" + dots(5), "2"}, {"1", "1" + dots(5) + "1", "w"}, {"1", "1" + dots(5) + dots(5), "0"},
            {"2", "66" + dots(10) + "61", "c1"}, {"2", "1" + dots(11) + "xxxxxxxxx", "x"}, {"2", "/", "x"}};
        for (String[] one : cases) {
            Run.Steps ahead = run -> run.due(1, "set 0 " + one[0]).came(one[1]).tell("1q");
            Run.alike(ahead, run -> {
                int events = run.due(1, "set 0 " + one[0]).came(one[1] + one[2]).ask("count 0");
                run.due(events - 1, "back").tell("1q");
            });
        }
        // All of them taken back, one by one.
        String whole = "4x1w c2 d2 " + dots(9) + "d1 00n1x/";
        Run m = Run.of(3, whole);
        for (int left = m.ask("count 0") - 1; left >= 0; left--) {
            m.due(left, "back", "count 0");
        }
        m.due(NONE, "back").due(0, "count 0", "count 1", "innings 0 0", "innings 1 0");
        Run.alike(run -> run.due(1, "set 0 3"), run -> {
            run.due(1, "set 0 3").came(whole);
            for (int left = run.ask("count 0") - 1; left >= 0; left--) {
                run.due(left, "back");
            }
        });
        Run full = new Run().came("w".repeat(400)).due(399, "back").due(400, "play 'x' 0").due(NONE, "play 'w' 0");
        full.due(399, "innings 0 0").due(1, "innings 0 1");
    }

    // ---- Promise 10

    private static void clear() {
        new Run().due(0, "clear", "count 0");
        new Run().came("w".repeat(400)).due(400, "clear").due(0, "clear", "count 0", "innings 0 0")
            .due(1, "play 'w' 0");
        Run.leaves(run -> run.tell("12"), 0, "clear");
        Run.alike(run -> run.due(1, "set 0 3").tell("12"), run -> run.due(1, "set 0 3").came("1x1wc2d2/0/")
            .tell("12").due(9, "clear"));
        new Run().events(NONE, " 7").due(0, "clear").due(1 + 8, "fault");
        // Nothing is left in any OVER, behind the first ball of another match either.
        String nineWickets = ("4w".repeat(10) + "x").repeat(9) + "/";
        Run.alike(run -> { }, run -> run.came(nineWickets + "1x6" + dots(100)).due(1, "count 1").due(293, "clear"));
        Run.alike(run -> run.came("6"), run -> run.came("1wn".repeat(119) + "6").due(358, "clear").came("6"));
    }

    // ---- Promise 11

    private static void count() {
        Run m = new Run();
        allTold(m);
        m.due(6, "count 0").due(0, "count 1").due(3, "count 2").due(30000, "count 3").due(3, "count 10")
            .due(90, "count 11").due(1, "count 12").due(6, "count 13").due(9, "count 14");
        m.due(NONE, "count -1", "count 4", "count 5", "count 9", "count 15", "count MIN", "count MAX", "count -11");
        m.due(7, "play '/' 0").due(1, "count 1").due(8, "play '/' 0").due(2, "count 1");
        m.due(20 + 3, "feed 0 0 0 0 0").due(23, "count 2");
    }

    // ---- Promises 12, 13

    private static void worthAndTold() {
        Run m = new Run().due(0, "worth 0 0", "worth 0 10", "worth 120 10").due(30000, "worth 120 0");
        m.due(NONE, "worth -1 0", "worth 121 0", "worth 0 -1", "worth 0 11", "worth -1 10", "worth 121 10");
        m.due(NONE, "worth MIN 0", "worth MAX 0", "worth 0 MIN", "worth 0 MAX", "worth 120 11");
        m.due(250, "told 0 1").due(1000, "told 0 4").due(25, "told 9 1").due(100, "told 9 4");
        m.due(NONE, "told -1 1", "told 10 1", "told 0 0", "told 0 5", "told 0 -1", "told 9 5", "told 10 0");
        m.due(NONE, "told MIN 1", "told MAX 1", "told 0 MIN", "told 0 MAX");
        // They are of the TABLE, whatever is played.
        m.came("xxx").due(30000, "worth 120 0").due(1000, "told 0 4");
    }

    // ---- "An object is used for at most 512 calls after it has been made"

    private static void usedUp(Run run) {
        if (run.calls() != 512) {
            throw new IllegalStateException("the last call is not the 512th: " + run.calls());
        }
    }

    private static void allCalls() {
        Run texts = new Run();
        while (texts.calls() < 508) {
            texts.due(1, "end 0").due(20, "feed 2004318071 2004318071 2004318071 2004318071 2004318071");
            texts.due(1, "end 1").due(1, "events");
        }
        usedUp(texts.due(127, "count 0", "innings 0 0").due(126, "back").due(127, "play 'w' 0"));
        Run plays = new Run();
        for (int k = 1; k <= 400; k++) {
            plays.due(k, "play 'w' 0");
        }
        for (int k = 0; k < 111; k++) {
            plays.due(400 - k, "after " + (400 - k) + " 1");
        }
        usedUp(plays.due(NONE, "firstAhead"));
        Run changes = Run.of(2, "66" + dots(10) + "11");
        while (changes.calls() < 511) {
            changes.due(15, "play '1' 0").due(14, "back");
        }
        usedUp(changes.due(2, "par"));
    }

    public static void main(String[] args) {
        newObject();
        settings();
        blocksTogether();
        settingLeavesTheRest();
        play();
        playRefused();
        back();
        clear();
        count();
        worthAndTold();
        allCalls();
        Run.close();
    }
}
