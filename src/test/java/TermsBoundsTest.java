/** The bounds that Terms 1 to 3 name: the last case on the one side of each, the first on the other. */
public final class TermsBoundsTest {
    private static final int NONE = Run.NONE;
    private static final String[] OTHER_THAN_D = {"0", "1", "2", "3", "4", "5", "6", "x", "w", "n", "c2"};

    private static String dots(int many) {
        return "0".repeat(many);
    }

    // ---- Term 1

    /** "With 30 k balls and r more (r 0 to 29)", "T(w, 0) being 0", "0 of 10 wickets". */
    private static void worth() {
        Run m = new Run().table(1, "row 0 400 600 800 900;");
        m.due(0, "worth 0 0", "worth 0 9").due(400, "worth 1 0").due(25, "worth 1 9");
        m.due(29 * 400, "worth 29 0").due(12000, "worth 30 0").due(12200, "worth 31 0");
        m.due(12000 + 29 * 200, "worth 59 0").due(18000, "worth 60 0").due(18200, "worth 61 0");
        m.due(18000 + 29 * 200, "worth 89 0").due(24000, "worth 90 0").due(24100, "worth 91 0");
        m.due(24000 + 29 * 100, "worth 119 0").due(27000, "worth 120 0").due(3000, "worth 120 9");
        m.due(0, "worth 0 10", "worth 1 10", "worth 30 10", "worth 119 10", "worth 120 10");
    }

    /** "FULL is the WORTH of 120 balls, 0 wickets": with the least and the greatest numbers that can be. */
    private static void full() {
        new Run().table(10, Run.allRows(1)).due(30, "count 3", "worth 120 0", "worth 30 9").due(29, "worth 29 0");
        new Run().table(10, Run.allRows(1000)).due(30000, "count 3", "worth 30 9").due(1000, "worth 1 0");
        new Run().due(30000, "count 3", "worth 120 0");
    }

    /** "the THIRD BLOCK is what is left of 20": 20 of none, none of 20. */
    private static void thirdBlock() {
        new Run().due(1, "set 3 0", "set 4 0").row("block 0", 0, 0, 20).due(2, "blockNow");
        new Run().due(1, "set 3 0", "set 4 20").row("block 0", 0, 20, 0).due(1, "blockNow");
        new Run().due(1, "set 4 0", "set 3 20").row("block 0", 20, 0, 0).due(0, "blockNow");
        new Run().due(1, "set 4 13").row("block 0", 6, 13, 1);
        new Run().due(1, "set 4 14").row("block 0", 6, 14, 0);
    }

    // ---- Term 2: EVENTS

    /** "A LOG of EVENTS, 400 at most". */
    private static void log() {
        Run m = new Run().came("w".repeat(398)).due(399, "play 'w' 0").due(400, "play 'n' 0");
        for (String event : OTHER_THAN_D) {
            m.due(NONE, "play '" + event.charAt(0) + "' 2");
        }
        m.due(NONE, "play 'd' 2", "play '/' 0").due(400, "count 0", "innings 0 0");
        m.due(399, "back").due(400, "play '/' 0").due(1, "count 1").due(NONE, "play 'd' 2");
        Run.leaves(run -> run.came("w".repeat(400)), NONE, "play 'w' 0");
        Run.leaves(run -> run.came("w".repeat(400)), NONE, "play 'c' 2");
    }

    /** "each has OVERS overs at first, of 6 balls each"; w, n are no balls; "ends also with its last ball". */
    private static void lastBall() {
        for (int overs = 1; overs <= 20; overs++) {
            int balls = 6 * overs;
            Run m = Run.of(overs, dots(balls - 1) + "wn").due(overs, "innings 0 3", "innings 1 3");
            m.due(0, "count 1").due(1, "innings 0 8").due(balls, "innings 1 8");
            m.due(balls + 2, "play '0' 0").due(1, "count 1").due(0, "innings 0 8").due(balls, "innings 0 2");
            m.came(dots(balls - 1) + "w").due(1, "count 1", "innings 1 8");
            m.due(2 * balls + 3, "play '0' 0").due(2, "count 1").due(0, "innings 1 8", "innings 1 6");
        }
    }

    /** Thirteen signs are EVENTS; of the numbers beside each none is another one. */
    private static void signs() {
        for (int sign = -1; sign <= 257; sign++) {
            boolean event = sign > 0 && "0123456xwncd/".indexOf(sign) >= 0;
            new Run().due(event ? 1 : NONE, "play " + sign + " 1").due(event ? 1 : 0, "count 0");
        }
        new Run().due(NONE, "play 304 1", "play -208 1", "play MIN 1", "play MAX 1").due(0, "count 0");
    }

    /** "N 1 or more, fewer than it has, no fewer than balls were bowled in it". */
    private static void cuts() {
        for (String ahead : new String[] {"", "4" + dots(17)}) {
            cutBound(ahead, "", 0, false);
            cutBound(ahead, "", 1, true);
            cutBound(ahead, "", 2, true);
            cutBound(ahead, "", 3, false);
            cutBound(ahead, "", 4, false);
            cutBound(ahead, dots(6), 1, true);
            cutBound(ahead, dots(6) + "w", 1, true);
            cutBound(ahead, dots(7), 1, false);
            cutBound(ahead, dots(12), 2, true);
            cutBound(ahead, dots(13), 2, false);
            cutBound(ahead, dots(13), 3, false);
            cutBound(ahead, "c2", 2, false);
            cutBound(ahead, "c2", 1, true);
            cutBound(ahead, "c1", 1, false);
            cutBound(ahead, "", Integer.MIN_VALUE, false);
            cutBound(ahead, "", Integer.MAX_VALUE, false);
            // Six times these is a small number again, by the wrap-around.
            cutBound(ahead, dots(7), 715827883, false);
            cutBound(ahead, "", -715827882, false);
        }
    }

    private static void cutBound(String ahead, String behind, int n, boolean comes) {
        String call = "play 'c' " + n;
        if (comes) {
            int i = ahead.isEmpty() ? 0 : 1;
            Run m = Run.of(3, ahead + behind);
            m.due(m.ask("count 0") + 1, call).due(n, "innings " + i + " 3");
        } else {
            Run.leaves(run -> run.due(1, "set 0 3").came(ahead + behind), NONE, call);
        }
    }

    /** "the second innings has N overs (N 1 to 20, fewer than it has)". */
    private static void later() {
        for (String ahead : new String[] {"", "4" + dots(119)}) {
            for (int n : new int[] {Integer.MIN_VALUE, -1, 0, 20, 21, Integer.MAX_VALUE}) {
                Run.leaves(run -> run.came(ahead), NONE, "play 'd' " + n);
            }
            for (int n : new int[] {1, 19}) {
                Run m = Run.of(20, ahead);
                m.due(m.ask("count 0") + 1, "play 'd' " + n).due(n, "innings 1 3").due(20, "innings 0 3");
                m.due(NONE, "play 'd' " + n, "play 'd' " + (n + 1)).due(n, "innings 1 3");
            }
        }
        Run.of(7, "").due(NONE, "play 'd' 8", "play 'd' 7").due(1, "play 'd' 6").due(NONE, "play 'd' 6");
        Run.of(1, "").due(NONE, "play 'd' 1", "play 'c' 1");
    }

    /** "as long as the first one is in play, and behind that till an EVENT other than d comes". */
    private static void laterTill() {
        String[] ends = {"4" + dots(17), "4xxxxxxxxxx", "4" + dots(5) + "c1", "4/"};
        for (String end : ends) {
            Run m = Run.of(3, end).due(1, "count 1");
            int events = m.ask("count 0");
            m.due(events + 1, "play 'd' 2").due(events + 2, "play 'd' 1").due(1500, "innings 1 4");
        }
        for (String event : OTHER_THAN_D) {
            Run.leaves(run -> run.due(1, "set 0 3").came("5/" + event), NONE, "play 'd' 1");
            Run.leaves(run -> run.due(1, "set 0 4").came("5/d3 " + event), NONE, "play 'd' 1");
            // In the first innings none of them is too early for it.
            Run m = Run.of(3, event).due(2, "play 'd' 2").due(2, "innings 1 3");
            m.due(3, "play '" + event.charAt(0) + "' 1").due(4, "play 'd' 1").due(1, "innings 1 3");
        }
    }

    // ---- Term 2: how an innings ends

    private static void tenthWicket() {
        Run m = Run.of(3, "xxxxxxxxx").due(0, "count 1").due(10, "play 'x' 0").due(1, "count 1");
        m.due(10, "innings 0 1").due(0, "innings 0 6", "innings 0 8", "innings 1 1").due(NONE, "result");
        m.came("xxxxxxxxx").due(1, "count 1").due(20, "play 'x' 0").due(2, "count 1").due(0, "innings 1 8");
        // The tenth wicket with the last ball ends one innings, not two.
        Run.of(2, "00xxxxxxxxxx").due(1, "count 1").due(0, "innings 1 2");
    }

    /** "(a CUT may do it, too)": to the balls bowled, not to one over more. */
    private static void endByCut() {
        Run.of(3, dots(6) + "c1").due(1, "count 1").due(0, "innings 0 8", "innings 0 6");
        Run.of(3, dots(6) + "c2").due(0, "count 1").due(6, "innings 0 8");
        Run.of(3, dots(12) + "c2").due(1, "count 1");
        Run.of(3, dots(5) + "c1").due(0, "count 1").due(1, "innings 0 8");
        Run.of(3, "4" + dots(17) + dots(6) + "c1").due(2, "count 1").due(0, "innings 1 8");
        Run.of(3, "4" + dots(17) + dots(6) + "c2").due(1, "count 1").due(6, "innings 1 8");
    }

    /** "the second one as soon as its runs are TARGET or more". */
    private static void endByTarget() {
        String first = "1" + dots(5);
        Run.of(1, first + "1").due(1, "count 1").due(2, "target");
        for (String behind : new String[] {"2", "3", "6", "11", "1w", "nw"}) {
            Run.of(1, first + behind).due(2, "count 1").due(2, "result").due(0, "innings 1 8");
        }
        // S 0: the first run is enough, none is not.
        Run.of(1, dots(6) + "0").due(1, "count 1", "target");
        Run.of(1, dots(6) + "w").due(2, "count 1", "result").due(0, "innings 1 2");
        // A CUT to one over of two brings THE TARGET from 13 to 7.
        Run.of(2, "66" + dots(10) + "6c1").due(1, "count 1", "needs 0").due(7, "target");
        Run.of(2, "66" + dots(10) + "61c1").due(2, "count 1", "result").due(7, "target");
        Run.of(2, "66" + dots(10) + "66c1").due(2, "count 1", "result").due(7, "target");
        // The first innings has none, and without P there is none for the second either.
        Run.of(1, "66666").due(0, "count 1");
        Run.of(1, "/66666").due(1, "count 1").due(7, "play '6' 0").due(2, "count 1");
    }

    /** "where that one ends the MATCH is over, and no EVENT can come". */
    private static void noEventBehind() {
        String[] ends = {"/", dots(6), "2", "xxxxxxxxxx", dots(6) + "c1"};
        int[] overs = {1, 1, 1, 2, 2};
        for (int k = 0; k < ends.length; k++) {
            int has = overs[k];
            String text = "1" + dots(6 * has - 1) + ends[k];
            Run m = Run.of(has, text).due(2, "count 1").due(NONE, "blockNow", "par");
            int events = m.ask("count 0");
            for (String event : OTHER_THAN_D) {
                m.due(NONE, "play '" + event.charAt(0) + "' 1");
            }
            m.due(NONE, "play 'd' 1", "play '/' 0").due(events, "count 0");
            Run.leaves(run -> run.due(has == 20 ? 0 : 1, "set 0 " + has).came(text), NONE, "play '0' 0");
        }
    }

    // ---- Term 2: PART, TARGET, PAR

    private static void parts() {
        Run.of(1, "/").due(0, "innings 0 4").due(1500, "innings 1 4");
        Run.of(1, "w/").due(0, "innings 0 4").due(1, "innings 0 0");
        Run.of(1, "0/").due(250, "innings 0 4");
        Run.of(1, "x/").due(1500 - 5 * 225, "innings 0 4");
        Run.of(1, dots(5) + "/").due(1250, "innings 0 4");
        Run.of(1, dots(6)).due(1500, "innings 0 4");
        // The tenth wicket takes nothing, nor does CLOSED behind the ninth more than a ball of one wicket.
        Run.of(2, "xxxxxxxxxx").due(3000, "innings 0 4");
        Run.of(2, "00xxxxxxxxx/").due(3000 - 25, "innings 0 4");
        // As it began: OVERS; as it was when the first one ended, less by d behind that, too.
        Run.of(4, "").due(6000, "innings 0 4", "innings 1 4");
        Run.of(4, "d3").due(6000, "innings 0 4").due(4500, "innings 1 4");
        Run.of(4, "d3/").due(4500, "innings 1 4");
        Run.of(4, "d3/d2").due(3000, "innings 1 4");
        Run.of(4, "c3").due(4500, "innings 0 4").due(6000, "innings 1 4");
        // A CUT to the balls bowled takes all that was left, one to an over more all but that.
        Run.of(4, "x" + dots(5) + "c1").due(6000 - 18 * 225, "innings 0 4").due(18 * 225, "cut 0 0 4");
        Run.of(4, "x" + dots(5) + "c2").due(6000 - 12 * 225, "innings 0 4").due(12 * 225, "cut 0 0 4");
        Run.of(4, "x" + dots(5) + "c3/").due(6000 - 18 * 225, "innings 0 4").due(6 * 225, "cut 0 0 4");
        // Behind the second innings is CLOSED its PART is less, THE TARGET not.
        Run.of(1, "1" + dots(5) + "0/").due(250, "innings 1 4").due(2, "target");
    }

    /** "Q less than P: S Q by P, cut, and 1; else S, MEAN times (Q less P) by FULL, cut, and 1". */
    private static void targets() {
        // Q 28500, P 30000: 19 by 20.
        Run.of(20, "555" + "5" + dots(116) + "d19").due(20, "target");
        Run.of(20, "555" + "4" + dots(116) + "d19").due(19, "target");
        Run.of(20, "5556" + dots(116) + "d19").due(20, "target");
        Run.of(20, "555" + "5" + dots(116)).due(21, "target");
        // Q is more than P by 75 or 50 of FULL 30000, or by none.
        meanTarget(400, 7, 2);
        meanTarget(399, 7, 1);
        meanTarget(400, 8, 1);
        meanTarget(1, 0, 1);
        new Run().due(1, "set 1 400").came("xxxxxxx" + dots(113)).due(1, "target");
        // P is 250: Q is more by 29750, the most that can be.
        new Run().due(1, "set 1 1").came("0/").due(1, "target");
        new Run().due(1, "set 1 2").came("0/").due(2, "target");
        new Run().due(1, "set 1 400").came("0/").due(396 + 1, "target");
    }

    private static void meanTarget(int mean, int wickets, int want) {
        String first = "x".repeat(wickets) + dots(119 - wickets) + "/";
        new Run().due(1, "set 1 " + mean).came(first).due(want, "target");
    }

    /** "P 0: there is none": nothing used, and the least that can be used. */
    private static void withoutPart() {
        Run.of(20, "/").due(NONE, "target", "par");
        Run.of(20, "wn/").due(NONE, "target", "par");
        Run.of(20, "c1/").due(NONE, "target", "par");
        Run.of(20, "0/").due(0 + 150 * 29750 / 30000 + 1, "target").due(0, "par");
        // Beyond 30 balls left none is worth more than another.
        new Run().table(10, Run.allRows(1)).came(dots(90) + "/").due(0, "innings 0 4").due(NONE, "target");
        new Run().table(10, Run.allRows(1)).came(dots(91) + "/").due(1, "innings 0 4").due(146, "target");
        new Run().table(10, Run.allRows(1)).came("xxxxxxxxx/").due(0, "innings 0 4").due(NONE, "target");
        new Run().table(10, Run.allRows(1)).came("xxxxxxxxxx").due(30, "innings 0 4").due(1, "target");
    }

    /** PAR where the PART used is less than P, P, more; where nothing and where all is used. */
    private static void pars() {
        // S 12, P 1500; the second has 2 overs: Q 250 a ball.
        Run m = Run.of(2, "c1 66" + dots(4)).due(12 + 150 * 1500 / 30000 + 1, "target").due(0, "par");
        int[] pars = {2, 4, 6, 8, 10, 12, 13, 14, 15, 17, 18};
        for (int par : pars) {
            m.came("0").due(par, "par");
        }
        m.came("w").due(18, "par").came("0").due(NONE, "par").due(2, "count 1");
        // A wicket uses what it takes of the worth of the balls that are left.
        Run.of(1, "66" + dots(4) + "x").due(12 * (1500 - 5 * 225) / 1500, "par");
    }

    // ---- Term 2: RESULT

    private static final String SIXTY = "6".repeat(10) + dots(26);

    /** "CLOSED with fewer balls bowled than 6 times LEAST". */
    private static void leastBalls() {
        for (int least : new int[] {1, 2, 4, 6, 19}) {
            Run few = new Run().due(1, "set 2 " + least).came("1" + dots(119) + dots(6 * least - 1) + "w/");
            few.due(0, "result", "margin");
            // 1 by a part below 1 of it is 0: one run is ahead of that.
            Run enough = new Run().due(1, "set 2 " + least).came("1" + dots(119) + dots(6 * least) + "w/");
            enough.due(2, "result").due(1, "margin");
        }
        new Run().due(1, "set 2 20").came("1" + dots(119) + dots(119) + "w/").due(0, "result");
        new Run().due(1, "set 2 20").came("1" + dots(119) + dots(119) + "w0").due(3, "result");
        // Not CLOSED: LEAST does not count.
        new Run().due(1, "set 2 20").came("1" + dots(119) + "2").due(2, "result").due(10, "margin");
        new Run().due(1, "set 2 20").came("1" + dots(119) + "xxxxxxxxxx").due(1, "result", "margin");
        new Run().due(1, "set 2 20").came("1" + dots(119) + dots(6) + "c1").due(3, "result");
    }

    /** By runs and PAR, if it is CLOSED; by runs and THE TARGET less 1, if not: one fewer, as many, one more. */
    private static void results() {
        // 30 of 36 balls, no wicket: PAR 50; THE TARGET 61.
        String balls = "6".repeat(8) + dots(21);
        Run.of(6, SIXTY + balls + "1/").due(1, "result", "margin");
        Run.of(6, SIXTY + balls + "2/").due(3, "result").due(0, "margin");
        Run.of(6, SIXTY + balls + "3/").due(2, "result").due(1, "margin");
        Run.of(6, SIXTY + balls + "5w" + "w".repeat(6) + "/").due(2, "result").due(10, "margin");
        String all = "6".repeat(9) + dots(26);
        Run.of(6, SIXTY + all + "5").due(1, "result", "margin");
        Run.of(6, SIXTY + all + "6").due(3, "result").due(0, "margin");
        Run.of(6, SIXTY + all + "w6").due(2, "result").due(10, "margin");
        // P is 0: none, however it ends.
        Run.of(1, "/" + dots(6)).due(0, "result", "margin");
        Run.of(1, "/666666").due(0, "result", "margin");
        Run.of(1, "/" + "/").due(0, "result", "margin");
        Run.of(2, "/xxxxxxxxxx").due(0, "result", "margin");
    }

    /** "of 2 wickets left": ten of none lost, one of nine lost. */
    private static void wicketsLeft() {
        Run.of(2, "1" + dots(11) + "2").due(10, "margin");
        Run.of(2, "1" + dots(11) + "x2").due(9, "margin");
        Run.of(2, "1" + dots(11) + "xxxxxxxxx2").due(1, "margin").due(2, "result");
        Run.of(2, "1" + dots(11) + "1xxxxxxxxxx").due(0, "margin").due(3, "result");
    }

    // ---- Term 3

    private static final int[][] BLOCKS_OF_6_9_5 = {
        {0, 1, 0}, {1, 1, 0}, {1, 1, 1}, {1, 2, 1}, {2, 2, 1}, {2, 3, 1}, {2, 3, 2}, {2, 4, 2}, {3, 4, 2},
        {3, 5, 2}, {3, 5, 3}, {4, 5, 3}, {4, 6, 3}, {4, 6, 4}, {4, 7, 4}, {5, 7, 4}, {5, 8, 4}, {5, 8, 5},
        {6, 8, 5}, {6, 9, 5}};

    /** "overs that are left then go one each to those with the greatest rest, of like ones to the first". */
    private static void blocks() {
        for (int n = 1; n <= 20; n++) {
            int[] want = BLOCKS_OF_6_9_5[n - 1];
            Run.of(n, "").row("block 0", want).row("block 1", want);
            if (n < 20) {
                Run.of(20, "c" + n).row("block 0", want).row("block 1", 6, 9, 5);
                Run.of(20, "d" + n).row("block 0", 6, 9, 5).row("block 1", want);
            }
        }
        // 7, 7, 6 of 20: like rests of FIRST and SECOND, one over or two of them left.
        Run seven = new Run().due(1, "set 4 7", "set 3 7");
        seven.due(1, "play 'c' 19").row("block 0", 7, 6, 6).due(2, "play 'c' 18").row("block 0", 6, 6, 6);
        seven.due(3, "play 'c' 2").row("block 0", 1, 1, 0).due(4, "play 'c' 1").row("block 0", 1, 0, 0);
        // 5, 5, 10: FIRST and SECOND alike, one left; 10, 10, 0: none ever for the THIRD.
        Run five = new Run().due(1, "set 3 5", "set 4 5");
        five.due(1, "play 'c' 2").row("block 0", 1, 0, 1).due(2, "play 'c' 1").row("block 0", 0, 0, 1);
        Run ten = new Run().due(1, "set 4 10", "set 3 10");
        ten.due(1, "play 'c' 19").row("block 0", 10, 9, 0).due(2, "play 'c' 1").row("block 0", 1, 0, 0);
        // 1, 1, 18: of 7 overs 7, 7, 126: rests 7, 7, 6; of 6 overs 6, 6, 108: 6, 6, 8.
        Run one = new Run().due(1, "set 3 1", "set 4 1");
        one.due(1, "play 'c' 14").row("block 0", 1, 1, 12).due(2, "play 'c' 13").row("block 0", 1, 0, 12);
        one.due(3, "play 'c' 7").row("block 0", 1, 0, 6).due(4, "play 'c' 6").row("block 0", 0, 0, 6);
    }

    /** "runs that come ahead of the first of these and behind the last one of the OVER ahead". */
    private static void overs() {
        Run m = Run.of(3, "w" + dots(5) + "n1" + "wn" + dots(5) + "2" + "w");
        m.row("over 0 0", 3, 0, 6).row("over 0 1", 4, 0, 6).row("over 0 2", 1, 0, 0);
        m.came("xxxxxx").row("over 0 2", 1, 6, 6).row("over 0 3", 0, 0, 0);
        // The first run behind the end of an innings is of the other's first OVER.
        m.came("w").row("over 0 2", 1, 6, 6).row("over 1 0", 1, 0, 0);
        Run last = Run.of(20, dots(114) + "w" + dots(5)).row("over 0 19", 1, 0, 5);
        last.came("3").row("over 0 19", 4, 0, 6).row("over 1 0", 0, 0, 0);
    }

    public static void main(String[] args) {
        worth();
        full();
        thirdBlock();
        log();
        lastBall();
        signs();
        cuts();
        later();
        laterTill();
        tenthWicket();
        endByCut();
        endByTarget();
        noEventBehind();
        parts();
        targets();
        withoutPart();
        pars();
        leastBalls();
        results();
        wicketsLeft();
        blocks();
        overs();
        Run.close();
    }
}
