import java.util.Arrays;

/** The bounds of promises 33 to 38: what would be, and how it was. */
public final class WouldBeBoundsTest {
    private static final int NONE = Run.NONE;
    private static final int NOT_SO_MANY = -2;

    /** S 18, P 4500 of 3 overs: THE TARGET is 19, with 2 overs 13, with 1 over 7. */
    private static final String EIGHTEEN = "666" + "0".repeat(15);

    private static String dots(int many) {
        return "0".repeat(many);
    }

    private static Run.Steps steps(int overs, String text) {
        return run -> run.due(1, "set 0 " + overs).came(text).tell("1q");
    }

    // ---- Promise 33

    /** "that can't come": fewer than 1, not fewer than it has, fewer than balls were bowled. */
    private static void ifCut() {
        Run.of(3, EIGHTEEN).row("ifCut", NONE, 7, 13, NONE, NONE).due(NONE, "ifCut -1", "ifCut MIN", "ifCut MAX");
        Run.of(3, EIGHTEEN + dots(6)).row("ifCut", NONE, 7, 13, NONE);
        Run.of(3, EIGHTEEN + dots(6) + "w").row("ifCut", NONE, 7, 13, NONE);
        Run.of(3, EIGHTEEN + dots(7)).row("ifCut", NONE, NONE, 13, NONE);
        Run.of(3, EIGHTEEN + dots(12)).row("ifCut", NONE, NONE, 13, NONE);
        Run.of(3, EIGHTEEN + dots(13)).row("ifCut", NONE, NONE, NONE, NONE);
        Run.of(3, EIGHTEEN + "d2").row("ifCut", NONE, 7, NONE, NONE);
        Run.of(3, EIGHTEEN + "c2").row("ifCut", NONE, 7, NONE, NONE);
        Run.of(3, EIGHTEEN + "c1").row("ifCut", NONE, NONE, NONE, NONE);
        // A wicket: six balls of nine wickets are worth 1350.
        Run.of(3, EIGHTEEN + "x").row("ifCut", NONE, 18 * (4500 - 2700) / 4500 + 1, 18 * (4500 - 1350) / 4500 + 1,
            NONE);
        // Its runs are THE TARGET or more by that: it is told all the same.
        Run.of(3, EIGHTEEN + "6w").row("ifCut", NONE, 7, 13, NONE).due(12, "needs 0");
        Run.of(20, "1" + dots(119)).due(NONE, "ifCut 20", "ifCut 21").due(1, "ifCut 19", "ifCut 1");
        for (String call : new String[] {"ifCut 0", "ifCut 3", "ifCut -1", "ifCut MIN", "ifCut MAX"}) {
            Run.leaves(steps(3, EIGHTEEN + "1"), NONE, call);
        }
        Run.leaves(steps(3, EIGHTEEN + "1"), 7, "ifCut 1");
    }

    /** "the second innings is not in play", "P is 0", a LOG that is full. */
    private static void ifCutNone() {
        Run.leaves(steps(3, "66"), NONE, "ifCut 2");
        Run.leaves(steps(3, EIGHTEEN + "/"), NONE, "ifCut 2");
        Run.leaves(steps(3, "/1"), NONE, "ifCut 2");
        Run.of(3, EIGHTEEN.substring(1)).due(NONE, "ifCut 1", "leastCut 0").came("0").due(5, "ifCut 1")
            .due(1, "leastCut 0");
        Run full = Run.of(3, EIGHTEEN).came("w".repeat(18) + "/").due(NONE, "ifCut 1");
        full.due(37, "clear").came("w".repeat(377) + dots(18)).came("0000").due(399, "count 0").due(1, "count 1");
        full.due(377 / 3 + 1, "ifCut 1").due(1, "leastCut 0").came("0")
            .due(NONE, "ifCut 1", "ifCut 2", "leastCut 0", "leastCut MIN");
        full.due(NONE, "play 'c' 1").due(399, "back").due(126, "ifCut 1").due(400, "play 'c' 1").due(126, "target");
    }

    /** What it tells is what comes. */
    private static void asItComes() {
        String[] aheads = {"", "1", "x6", dots(6), "w1x", "c4 2", "d4 1n"};
        for (String ahead : aheads) {
            for (int n = 0; n <= 6; n++) {
                Run told = Run.of(5, "4x26" + dots(26) + ahead);
                int events = told.ask("count 0");
                int target = told.ask("ifCut " + n);
                told.due(target == NONE ? NONE : events + 1, "play 'c' " + n);
                if (target != NONE) {
                    told.due(target, "target");
                }
            }
            Run closed = new Run().due(1, "set 0 5", "set 2 1").came("4x26" + dots(26) + ahead);
            int events = closed.ask("count 0");
            int result = closed.ask("ifClosed");
            closed.due(events + 1, "play '/' 0").due(result, "result");
        }
    }

    // ---- Promise 34

    private static void ifClosed() {
        Run.leaves(steps(3, ""), NONE, "ifClosed");
        Run.leaves(steps(3, EIGHTEEN.substring(1)), NONE, "ifClosed");
        Run.leaves(steps(3, EIGHTEEN), 0, "ifClosed");
        Run.leaves(steps(3, EIGHTEEN + "/"), NONE, "ifClosed");
        Run.leaves(steps(3, "/1"), 0, "ifClosed");
        // LEAST 1: five balls are too few; PAR is 1 a ball.
        Run m = new Run().due(1, "set 0 3", "set 2 1").came(EIGHTEEN + "500").due(0, "ifClosed").came("00");
        m.due(0, "ifClosed").came("w").due(0, "ifClosed").due(5, "par").came("0").due(3, "ifClosed").due(6, "par");
        m.came("w").due(2, "ifClosed").came("0").due(3, "ifClosed").came("0").due(1, "ifClosed").due(8, "par");
        m.came(dots(9)).due(1, "ifClosed", "needs 1").came("0").due(NONE, "ifClosed");
        // P is 0: none, with enough balls, too.
        new Run().due(1, "set 0 3", "set 2 1").came("/" + dots(6)).due(0, "ifClosed");
        // THE TARGET less 1 is ahead of PAR with one ball left.
        new Run().due(1, "set 0 3", "set 2 1").came(EIGHTEEN + "666" + dots(14)).due(2, "ifClosed").came("0")
            .due(3, "result");
        Run full = new Run().due(1, "set 2 1").came("w".repeat(270) + dots(120)).came("666666" + "ww").came("ww");
        full.due(400, "count 0").due(2, "ifClosed").due(NONE, "play '/' 0");
    }

    // ---- Promise 35

    private static void ifRuns() {
        for (String runs : new String[] {"-1", "1000", "MIN", "MAX"}) {
            Run.leaves(steps(3, EIGHTEEN + "1"), NONE, "ifRuns " + runs);
        }
        Run.leaves(steps(3, EIGHTEEN + "1"), 19, "ifRuns 18");
        Run.of(3, EIGHTEEN).due(1, "ifRuns 0").due(2, "ifRuns 1").due(1000, "ifRuns 999")
            .due(NONE, "ifRuns -1", "ifRuns 1000");
        Run.of(3, EIGHTEEN + "d1").due(1, "ifRuns 0", "ifRuns 2").due(2, "ifRuns 3").due(334, "ifRuns 999");
        // as target(): the first innings has not ended, P is 0; when the MATCH is over it answers
        Run.of(3, EIGHTEEN.substring(1)).due(NONE, "ifRuns 0", "ifRuns 999").came("0").due(1, "ifRuns 0");
        Run.of(3, "/").due(NONE, "ifRuns 0", "ifRuns 999").came("/").due(NONE, "ifRuns 0");
        Run.of(3, EIGHTEEN + "c1/").due(2, "count 1").due(334, "ifRuns 999").due(7, "ifRuns 18", "target");
        // Q is more than P: MEAN counts, whatever the runs.
        Run.of(2, "0/").due(0 + 13 + 1, "ifRuns 0", "target").due(999 + 13 + 1, "ifRuns 999");
    }

    // ---- Promise 36

    /** "more than its runs by v or more": v as great as it is, and one more. */
    private static void leastCut() {
        Run m = Run.of(3, EIGHTEEN).due(1, "leastCut MIN", "leastCut 0", "leastCut 7")
            .due(2, "leastCut 8", "leastCut 13");
        m.due(NONE, "leastCut 14", "leastCut 19", "leastCut MAX");
        m.came("3").due(1, "leastCut 4").due(2, "leastCut 5", "leastCut 10").due(NONE, "leastCut 11");
        m.came("6").due(1, "leastCut -2", "leastCut MIN").due(2, "leastCut -1", "leastCut 0", "leastCut 4")
            .due(NONE, "leastCut 5");
        m.came(dots(4)).due(1, "leastCut -2").came("0").due(2, "leastCut -2", "leastCut MIN", "leastCut 4")
            .due(NONE, "leastCut 5");
        m.came(dots(5)).due(2, "leastCut 4").came("0").due(NONE, "leastCut 4", "leastCut 0", "leastCut MIN");
        // as ifCut()
        Run.leaves(steps(3, "66"), NONE, "leastCut 0");
        Run.leaves(steps(3, EIGHTEEN + "/"), NONE, "leastCut MIN");
        Run.leaves(steps(3, "/1"), NONE, "leastCut MIN");
        Run.leaves(steps(3, EIGHTEEN + "1"), 2, "leastCut 7");
        Run.leaves(steps(3, EIGHTEEN + "1"), NONE, "leastCut 13");
        Run.of(1, "1" + dots(5)).due(NONE, "leastCut MIN");
        Run.of(2, "1" + dots(11)).due(1, "leastCut MIN", "leastCut 1").due(NONE, "leastCut 2");
        // S 20 of 20 overs: n and 1 for n overs; 19 is the most.
        Run.of(20, "5555" + dots(116)).due(1, "leastCut 2").due(2, "leastCut 3").due(18, "leastCut 19")
            .due(19, "leastCut 20")
            .due(NONE, "leastCut 21");
    }

    // ---- Promise 37

    private static final String[] WHOLE = {"4", "x", "d3", "w", "c3", "1", "/", "d2", "1", "c1", "x", "n", "1", "/"};

    private static String first(int k) {
        return String.join(" ", Arrays.copyOf(WHOLE, k));
    }

    /** At each k, 0 and all of them too, as it is of a match of so many EVENTS. */
    private static void after() {
        Run whole = new Run().due(1, "set 0 4").came(first(WHOLE.length)).due(2, "count 1");
        for (int k = 0; k <= WHOLE.length; k++) {
            Run now = Run.of(4, first(k)).due(k, "count 0");
            int inPlay = now.ask("count 1");
            int side = inPlay == 0 ? 0 : 1;
            whole.due(inPlay, "after " + k + " 0").due(now.ask("innings " + side + " 0"), "after " + k + " 1")
                .due(now.ask("innings " + side + " 1"), "after " + k + " 2")
                .due(now.ask("innings " + side + " 2"), "after " + k + " 3")
                .due(now.ask("target"), "after " + k + " 4").due(now.ask("par"), "after " + k + " 5");
            whole.due(NOT_SO_MANY, "after " + k + " 6", "after " + k + " -1");
        }
        whole.due(NOT_SO_MANY, "after 15 0", "after -1 0", "after MIN 0", "after MAX 0", "after 0 MIN",
            "after 0 MAX", "after 15 6");
        whole.due(13, "back").due(NOT_SO_MANY, "after 14 0").due(1, "after 13 0").due(13, "clear")
            .due(NOT_SO_MANY, "after 1 0");
        whole.row("after 0", 0, 0, 0, 0, NONE, NONE, NOT_SO_MANY);
        for (String call : new String[] {"after -1 0", "after 15 0", "after 3 6", "after 3 -1"}) {
            Run.leaves(steps(4, first(WHOLE.length)), NOT_SO_MANY, call);
        }
        Run.leaves(steps(4, first(WHOLE.length)), 0, "after 3 0");
        Run.leaves(steps(4, first(WHOLE.length)), 1, "after 8 0");
        // THE TARGET, PAR: none till the first innings has ended; PAR none where the MATCH is over, or P is 0
        Run.of(1, "4" + dots(5) + "5").row("after 5", 0, 4, 0, 5, NONE, NONE).row("after 6", 1, 0, 0, 0, 5, 0)
            .row("after 7", 2, 5, 0, 1, 5, NONE).due(NOT_SO_MANY, "after 8 0");
        Run.of(1, "/4/").row("after 1", 1, 0, 0, 0, NONE, NONE).row("after 2", 1, 4, 0, 1, NONE, NONE)
            .row("after 3", 2, 4, 0, 1, NONE, NONE);
        // None came of a text with a FAULT.
        Run.of(1, "4").events(NONE, "4 7").due(NOT_SO_MANY, "after 2 0").due(4, "after 1 1");
        Run full = new Run().came("w".repeat(400)).due(400, "after 400 1").due(399, "after 399 1")
            .due(NOT_SO_MANY, "after 401 1");
        full.due(0, "after 0 1");
    }

    // ---- Promise 38

    /** "ahead of PAR (more runs, in play)": as many are not more. S 12 of 2 overs: PAR is 1 a ball. */
    private static void firstAhead() {
        String first = "66" + dots(10);
        Run m = new Run().due(NONE, "firstAhead").due(1, "set 0 2").came(first).due(NONE, "firstAhead").came("1");
        m.due(NONE, "firstAhead").came("1").due(NONE, "firstAhead").due(2, "par").came("w").due(15, "firstAhead");
        // The first of them stays, when it is behind, or ahead again, or all is over.
        m.came("000").due(15, "firstAhead").came("6").due(15, "firstAhead").came("/").due(15, "firstAhead");
        m.due(19, "back").due(18, "back").due(17, "back").due(16, "back").due(15, "back", "firstAhead")
            .due(14, "back").due(NONE, "firstAhead");
        Run.of(2, first + "w").due(13, "firstAhead");
        Run.of(2, first + "2").due(13, "firstAhead");
        Run.of(2, first + "0" + "1").due(NONE, "firstAhead");
        Run.of(2, first + "0" + "2").due(NONE, "firstAhead");
        Run.of(2, first + "0" + "3").due(14, "firstAhead");
        Run.of(2, first + "1".repeat(12)).due(3, "result").due(NONE, "firstAhead");
        // EVENTS of the first innings and d are counted, too; a CUT leaves PAR as it is.
        Run.of(2, "c1 66" + dots(4) + "d1 3").due(9, "firstAhead");
        Run.of(3, first + dots(6) + "d2 0 c1 w").due(22, "firstAhead");
        // The run that ends it is not in play; P is 0.
        Run.of(1, "1" + dots(5) + "2").due(2, "result").due(NONE, "firstAhead");
        Run.of(1, "1" + dots(5) + "w1").due(2, "result").due(7, "firstAhead");
        Run.of(1, "/66666").due(NONE, "firstAhead");
        Run.leaves(steps(2, first + "w"), 13, "firstAhead");
        Run.leaves(steps(2, first), NONE, "firstAhead");
        // the last EVENT that can be
        Run last = new Run().came("w".repeat(279)).came(dots(120)).due(NONE, "firstAhead").came("w")
            .due(400, "firstAhead", "count 0");
        last.due(399, "back").due(NONE, "firstAhead");
    }

    public static void main(String[] args) {
        ifCut();
        ifCutNone();
        asItComes();
        ifClosed();
        ifRuns();
        leastCut();
        after();
        firstAhead();
        Run.close();
    }
}
