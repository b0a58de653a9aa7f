/** The bounds of promises 27 to 32: the chase. */
public final class ChaseBoundsTest {
    private static final int NONE = Run.NONE;
    private static final String[] NO_CHASE = {"target", "par", "result", "margin", "needs 0", "needs 1", "needs 2",
        "needs 3", "broken 0", "broken 1", "broken 2", "broken 3"};

    private static String dots(int many) {
        return "0".repeat(many);
    }

    // ---- Promises 27, 28

    /** "NONE: the first innings has not ended": with its last ball it has. */
    private static void target() {
        Run.of(1, "").due(NONE, NO_CHASE);
        Run m = Run.of(1, "4" + dots(4)).due(NONE, NO_CHASE).came("0").due(5, "target").due(0, "par");
        m.came(dots(5)).due(5, "target").due(3, "par").came("0").due(5, "target").due(NONE, "par");
        Run.of(2, "xxxxxxxxx").due(NONE, NO_CHASE).came("x").due(1, "target").due(0, "par");
        Run.of(2, dots(6)).due(NONE, NO_CHASE).came("c1").due(0 + 150 * 1500 / 30000 + 1, "target").due(0, "par");
        Run.of(2, "0").due(NONE, NO_CHASE).came("/").due(0 + 150 * 2750 / 30000 + 1, "target").due(0, "par");
        for (String call : new String[] {"target", "par", "result", "margin", "needs 0", "broken 0"}) {
            Run.leaves(run -> run.came("4x").tell("1q"), NONE, call);
        }
    }

    /** "P is 0": in the second innings, and when the MATCH is over. */
    private static void withoutPart() {
        Run m = Run.of(1, "w/").due(NONE, NO_CHASE).came("66666").due(NONE, NO_CHASE).came("6");
        m.due(NONE, "target", "par", "needs 0", "needs 1", "broken 0").due(0, "result", "margin");
        // One ball: P is 250.
        Run.of(1, "0/").due(0 + 150 * 1250 / 30000 + 1, "target").due(0, "par").due(6, "needs 1");
    }

    /** THE TARGET by d, by a CUT, behind CLOSED, behind the MATCH is over. */
    private static void targetStays() {
        // S 12, P 3000.
        String first = "66" + dots(10);
        Run m = Run.of(2, first).due(13, "target").came("d1").due(7, "target").came("00").due(7, "target")
            .due(2, "par");
        m.came("/").due(7, "target").due(NONE, "par").due(500, "innings 1 4");
        Run.of(2, first + "c1").due(7, "target").due(1, "count 1");
        Run.of(2, first + dots(6) + "c1").due(7, "target").due(2, "count 1").due(NONE, "par");
        Run.of(2, first + "661").due(13, "target").due(2, "count 1").due(NONE, "par");
        Run.of(2, first + dots(11)).due(11, "par").came("0").due(NONE, "par").due(13, "target");
        // cut: 12 by 12 of 3000 less what is left of nine wickets
        Run.of(2, first + "x").due(12 * (3000 - 11 * 225) / 3000, "par");
        Run.of(2, first + "xxxxxxxxx").due(12 * (3000 - 3 * 25) / 3000, "par");
    }

    // ---- Promises 29, 30

    /** "NONE: the MATCH is not over": one EVENT ahead of its end, whichever that is. */
    private static void result() {
        String first = "1" + dots(11);
        String[] aheads = {dots(11), "xxxxxxxxx", "1", "", dots(6)};
        String[] ends = {"0", "x", "1", "/", "c1"};
        // Cut to one over of two THE TARGET is 1: none and none is a tie.
        int[] results = {1, 1, 2, 0, 3};
        int[] margins = {1, 1, 10, 0, 0};
        for (int k = 0; k < ends.length; k++) {
            Run m = Run.of(2, first + aheads[k]).due(NONE, "result", "margin").came(ends[k]);
            m.due(results[k], "result").due(margins[k], "margin");
            m.ask("back");
            m.due(NONE, "result", "margin");
        }
        Run.leaves(run -> run.came("1/0").tell("1q"), NONE, "result");
        Run.leaves(run -> run.came("1/0").tell("1q"), NONE, "margin");
        Run.leaves(run -> run.came("1//").tell("1q"), 0, "result");
    }

    /** MARGIN: of none 0, of a tie 0, of 1 by one run and by all, of 2 by wickets or by runs. */
    private static void margin() {
        Run.of(1, "666666" + dots(6)).due(1, "result").due(36, "margin");
        Run.of(1, "666666" + "66666" + "5").due(1, "result", "margin");
        Run.of(1, "666666" + "666666").due(3, "result").due(0, "margin");
        Run.of(1, "666666" + "66666w" + "6").due(2, "result").due(10, "margin");
        Run.of(1, "666666" + "x6666w" + "ww" + "w").due(1, "count 1").due(NONE, "margin");
        // CLOSED: ahead of PAR by one, by many; THE TARGET less 1 is the most it can have
        String first = "6" + dots(11);
        Run closed = new Run().due(1, "set 0 2", "set 2 1").came(first + dots(6) + "4/").due(2, "result")
            .due(1, "margin");
        closed.due(19, "back").due(NONE, "margin").came("ww/").due(2, "result").due(3, "margin");
        closed.due(21, "back").came("w").due(2, "result").due(10, "margin").due(2, "count 1");
        new Run().due(1, "set 0 2", "set 2 1").came(first + dots(6) + "3/").due(3, "result").due(0, "margin");
        new Run().due(1, "set 0 2", "set 2 1").came(first + dots(6) + "2/").due(1, "result", "margin");
        new Run().due(1, "set 0 2", "set 2 1").came(first + dots(5) + "6/").due(2, "result").due(3, "margin");
        new Run().due(1, "set 0 2", "set 2 1").came(first + dots(4) + "6/").due(0, "result", "margin");
    }

    // ---- Promise 31

    /** "NONE: the second innings is not in play, P is 0, another what". */
    private static void needs() {
        for (String call : new String[] {"needs -1", "needs 4", "needs MIN", "needs MAX"}) {
            Run.leaves(run -> run.due(1, "set 0 2").came("66" + dots(10) + "1x"), NONE, call);
        }
        // 13 of 12 balls: 78 by 12, 13 by 2
        Run m = Run.of(2, "66" + dots(9)).due(NONE, "needs 0", "needs 1", "needs 2", "needs 3").came("0");
        m.row("needs", 13, 12, 13, 2).came("w").row("needs", 12, 12, 6, 1).came("0").row("needs", 12, 11, 72, 11);
        m.came("x0").row("needs", 12, 9, 8, 1).came("6").row("needs", 6, 8, 9, 2).came("5").row("needs", 1, 7, 6, 7);
        m.came(dots(6)).row("needs", 1, 1, 6, 1).due(NONE, "needs 4", "needs -1").came("0");
        m.due(NONE, "needs 0", "needs 1", "needs 2", "needs 3").due(3, "result");
        // the last run of all: none is in play then
        Run.of(2, "1" + dots(11) + "1").row("needs", 1, 11, 6, 11).came("w")
            .due(NONE, "needs 0", "needs 1", "needs 2", "needs 3");
        // a CUT leaves fewer of both
        Run.of(2, "66" + dots(10) + "c1").row("needs", 7, 6, 7, 1);
        // S 0: one run of all balls, 6 by 120
        Run.of(20, dots(120)).row("needs", 1, 120, 1, 20);
        Run.of(1, "/").due(NONE, "needs 0", "needs 1", "needs 2", "needs 3");
        Run.of(1, "0/").row("needs", 7, 6, 7, 1);
    }

    // ---- Promise 32

    private static void broken(int overs, String text, int... want) {
        Run.of(overs, text).due(3, "result").row("broken", want).due(NONE, "broken -1", "broken 4");
    }

    private static void brokenRules() {
        // BLOCKS of 2 overs: 1, 1, 0.
        String two = "200000" + "000002";
        broken(2, two + two, 0, 0, 0, 0);
        // wickets: one fewer on either side
        broken(2, two + "2x0000" + "000002", 1, 0, 0, 0);
        broken(2, "2x0000" + "000002" + two, 2, 0, 0, 0);
        broken(2, "2x0000" + "000002" + "2000x0" + "000002", 0, 0, 0, 0);
        // runs of the FIRST BLOCK: the last ball of it, the run behind that
        broken(2, "300003" + dots(6) + "300000" + "w000002", 0, 1, 0, 1);
        broken(2, "300000" + "w000002" + "300003" + dots(6), 0, 2, 0, 2);
        broken(2, "300001" + "300001" + "300001" + "300001", 0, 0, 0, 0);
        broken(2, "300000" + "w300000" + "30000w0" + "300000", 0, 2, 0, 0);
        // balls of four and six: a five, four w, a wicket are none
        broken(2, "400000" + dots(6) + "220000" + dots(6), 0, 0, 1, 0);
        broken(2, "330000" + dots(6) + "600000" + dots(6), 0, 0, 2, 0);
        broken(2, "500000" + dots(6) + "320000" + dots(6), 0, 0, 0, 0);
        broken(2, "wwww" + dots(12) + "220000" + dots(6), 0, 0, 0, 0);
        broken(2, "460000" + dots(6) + "640000" + dots(6), 0, 0, 0, 0);
        broken(2, "444000" + dots(6) + "660000" + dots(6), 0, 0, 1, 0);
        // the greatest OVER: by one run, and alike in another place
        broken(2, "300000" + "200000" + "220000" + "100000", 0, 2, 0, 2);
        broken(2, "200000" + "300000" + "300000" + "200000", 0, 2, 0, 0);
        broken(2, "210000" + "200000" + "200000" + "w200000", 0, 1, 0, 0);
        broken(1, dots(6) + dots(6), 0, 0, 0, 0);
    }

    /** "in its FIRST BLOCK": by the overs that each innings has. */
    private static void brokenByBlocks() {
        // S 8 of 4 overs; the second has 1, and no over in its FIRST BLOCK: a tie at 2.
        broken(4, "44" + dots(22) + "d1" + " 200000", 0, 1, 1, 1);
        broken(4, dots(6) + "44" + dots(16) + "d1" + " 200000", 0, 0, 1, 1);
        broken(4, dots(5) + "w" + "1" + "33" + dots(16) + "d1" + " 200000", 0, 1, 0, 1);
    }

    /** "NONE: the RESULT is not 3, no such RULE". */
    private static void notBroken() {
        String[] calls = {"broken 0", "broken 1", "broken 2", "broken 3"};
        Run.of(1, "").due(NONE, calls);
        Run.of(1, "1" + dots(5) + "1").due(NONE, calls);
        Run.of(1, "1" + dots(5) + dots(6)).due(1, "result").due(NONE, calls);
        Run.of(1, "1" + dots(5) + "2").due(2, "result").due(NONE, calls);
        Run.of(1, "/" + dots(6)).due(0, "result").due(NONE, calls);
        Run.of(1, "1" + dots(5) + "1" + dots(5)).due(3, "result").due(0, calls).due(NONE, "broken MIN", "broken MAX");
        for (String call : new String[] {"broken -1", "broken 4"}) {
            Run.leaves(run -> run.due(1, "set 0 1").came(dots(12)), NONE, call);
        }
        Run.leaves(run -> run.due(1, "set 0 1").came(dots(12)), 0, "broken 2");
        // A tie by PAR is one, too.
        Run closed = new Run().due(1, "set 0 2", "set 2 1").came("6" + dots(11) + "x" + dots(5) + "3/");
        closed.due(3, "result").row("broken", 1, 1, 1, 1);
    }

    public static void main(String[] args) {
        target();
        withoutPart();
        targetStays();
        result();
        margin();
        needs();
        brokenRules();
        brokenByBlocks();
        notBroken();
        Run.close();
    }
}
