/** The bounds of promises 14 to 26: what is asked of the innings. */
public final class InningsBoundsTest {
    private static final int NONE = Run.NONE;
    private static final int THROWS = Run.THROWS;
    private static final String[] NO_INNINGS = {"MIN", "-1", "2", "MAX"};

    private static String dots(int many) {
        return "0".repeat(many);
    }

    /** Both innings have runs, wickets, CUTS; the second one is in play. */
    private static void midst(Run run) {
        run.due(1, "set 0 4").came("4x1w2n c3 " + dots(6) + "x3c2 " + "1x5c2 w").due(1, "count 1").tell("1q");
    }

    /** The calls are answered so, and all stays. */
    private static void leaveAll(int want, String... calls) {
        for (String call : calls) {
            Run.leaves(InningsBoundsTest::midst, want, call);
        }
    }

    // ---- Promise 14

    private static void innings() {
        leaveAll(THROWS, "innings -1 0", "innings 2 0", "innings 0 -1", "innings 0 9", "innings 1 9", "innings 2 9");
        Run m = new Run();
        for (String i : NO_INNINGS) {
            m.due(THROWS, "innings " + i + " 0", "innings " + i + " 8");
        }
        m.due(THROWS, "innings 0 MIN", "innings 0 MAX", "innings 1 MIN", "innings 1 MAX", "innings 1 -1");
        // what 0 to 8, of the innings in play, of one not begun yet, of those that have ended
        Run.of(2, "").row("innings 0", 0, 0, 0, 2, 3000, 0, 0, 0, 12).row("innings 1", 0, 0, 0, 2, 3000, 0, 0, 0, 12);
        Run.of(2, "6xwn").row("innings 0", 8, 1, 2, 2, 3000, 0, 0, 2, 10)
            .row("innings 1", 0, 0, 0, 2, 3000, 0, 0, 0, 12);
        Run.of(2, "6xwnd1").row("innings 1", 0, 0, 0, 1, 1500, 0, 0, 0, 6);
        Run.of(2, "6xwn/").row("innings 0", 8, 1, 2, 2, 3000 - 2250, 0, 1, 2, 0);
        Run.of(2, "6xwnc1").row("innings 0", 8, 1, 2, 1, 3000 - 6 * 225, 1, 0, 2, 4);
        Run.of(2, "6xwnc1/").row("innings 0", 8, 1, 2, 1, 750, 1, 1, 2, 0);
        Run.of(2, "6xwnc1/0").row("innings 1", 0, 0, 1, 2, 3000, 0, 0, 0, 11);
        Run.of(2, "6xwnc1//").row("innings 1", 0, 0, 0, 2, 0, 0, 1, 0, 0);
        // balls left: one, then 0, whichever way it has ended
        Run.of(2, dots(11)).due(1, "innings 0 8").came("0").due(0, "innings 0 8").due(12, "innings 1 8");
        Run.of(2, "xxxxxxxxx").due(3, "innings 0 8").came("x").due(0, "innings 0 8");
        Run.of(2, dots(6)).due(6, "innings 0 8").came("c1").due(0, "innings 0 8");
        Run.of(2, "1" + dots(11) + "1").due(11, "innings 1 8").came("w").due(0, "innings 1 8").due(12, "innings 0 2");
    }

    // ---- Promise 15

    private static void cut() {
        leaveAll(THROWS, "cut 0 -1 0", "cut 0 2 0", "cut 1 1 0", "cut 0 0 -1", "cut 0 0 5", "cut 1 0 5", "cut 2 0 0",
            "cut -1 0 0");
        Run none = new Run().due(THROWS, "cut 0 0 0", "cut 1 0 0").came("c19").due(THROWS, "cut 0 1 0", "cut 1 0 0");
        none.row("cut 0 0", 0, 0, 20, 19, 1500).due(0, "back").due(THROWS, "cut 0 0 0");
        for (String v : new String[] {"MIN", "MAX"}) {
            none.due(THROWS, "cut " + v + " 0 0", "cut 0 " + v + " 0", "cut 0 0 " + v);
        }
        // nineteen of each innings, the most that can be: 20 overs down to 1
        Run m = new Run();
        for (int n = 19; n >= 1; n--) {
            m.due(20 - n, "play 'c' " + n);
        }
        m.due(19, "innings 0 5").due(THROWS, "cut 0 19 0", "cut 1 0 0").row("cut 0 18", 0, 0, 2, 1, 1500);
        m.due(NONE, "play 'c' 1", "play 'c' 0").came("4" + dots(5)).due(1, "count 1");
        for (int n = 19; n >= 1; n--) {
            m.due(45 - n, "play 'c' " + n);
        }
        m.due(19, "innings 1 5", "innings 0 5").due(THROWS, "cut 1 19 0").row("cut 1 18", 0, 0, 2, 1, 1500);
        m.row("cut 1 0", 0, 0, 20, 19, 1500).row("cut 0 0", 0, 0, 20, 19, 1500);
        // d is no CUT; one that takes nothing is one: by this TABLE balls beyond the thirtieth are worth nothing
        Run.of(4, "d3").due(0, "innings 1 5").due(THROWS, "cut 1 0 0");
        new Run().table(10, Run.allRows(1)).came("xc19").row("cut 0 0", 1, 1, 20, 19, 0).due(1, "innings 0 5");
    }

    // ---- Promise 16

    private static void over() {
        leaveAll(NONE, "over 0 -1 0", "over 0 20 0", "over 0 0 -1", "over 0 0 3", "over 2 0 0", "over -1 0 0");
        Run m = new Run().due(0, "over 0 0 0", "over 0 19 0", "over 1 0 2", "over 1 19 2");
        m.due(NONE, "over 1 20 0", "over 1 -1 0", "over 1 0 3", "over 0 19 3");
        for (String v : new String[] {"MIN", "MAX"}) {
            m.due(NONE, "over " + v + " 0 0", "over 0 " + v + " 0", "over 0 0 " + v);
        }
        // "Runs behind the last ball of an OVER are of the next one": of the last OVER there are none.
        m.came(dots(113) + "4w6").row("over 0 18", 4, 0, 6).row("over 0 19", 7, 0, 1).came("w0000x");
        m.row("over 0 19", 8, 1, 6).due(1, "count 1").came("n").row("over 0 19", 8, 1, 6).row("over 1 0", 1, 0, 0);
        // Five balls, then the sixth; a wicket is a ball of no runs.
        Run.of(2, "12x45").row("over 0 0", 12, 1, 5).row("over 0 1", 0, 0, 0);
        Run.of(2, "12x456").row("over 0 0", 18, 1, 6).row("over 0 1", 0, 0, 0);
        Run.of(2, "12x456x").row("over 0 0", 18, 1, 6).row("over 0 1", 0, 1, 1);
        // Of an innings of fewer overs the OVERS beyond have nothing, but are there.
        Run.of(1, "").due(0, "over 0 1 0", "over 0 19 2").due(NONE, "over 0 20 0");
    }

    // ---- Promises 17, 18, 19

    private static void block() {
        leaveAll(NONE, "block 0 -1", "block 0 3", "block 1 3", "block 2 0", "block -1 0", "block 2 3");
        leaveAll(NONE, "inBlock 0 -1 0", "inBlock 0 3 0", "inBlock 0 0 -1", "inBlock 0 0 3", "inBlock 2 0 0",
            "inBlock -1 0 0");
        Run m = new Run().row("block 0", 6, 9, 5).row("block 1", 6, 9, 5);
        for (String v : new String[] {"MIN", "MAX"}) {
            m.due(NONE, "block " + v + " 0", "block 0 " + v);
            m.due(NONE, "inBlock " + v + " 0 0", "inBlock 0 " + v + " 0", "inBlock 0 0 " + v);
        }
        m.row("inBlock 1 0", 0, 0, 0).row("inBlock 1 2", 0, 0, 0).due(NONE, "inBlock 1 2 3", "inBlock 1 3 2");
        // "by its overs as they are": CUT, d, and behind the end of the innings, too
        Run.of(20, "c10 d1").row("block 0", 3, 5, 2).row("block 1", 0, 1, 0);
        Run.of(20, "c10 //").row("block 0", 3, 5, 2).row("block 1", 6, 9, 5).due(NONE, "blockNow");
    }

    /** The last ball of each BLOCK, the run behind it, the first ball of the next: 6, 9, 5 of 20 overs. */
    private static void inBlock() {
        Run m = Run.of(20, dots(35)).due(0, "blockNow").row("inBlock 0 0", 0, 0, 35);
        m.came("4").due(1, "blockNow").row("inBlock 0 0", 4, 0, 36).row("inBlock 0 1", 0, 0, 0);
        m.came("w").row("inBlock 0 0", 4, 0, 36).row("inBlock 0 1", 1, 0, 0).due(1, "blockNow");
        m.came(dots(53)).due(1, "blockNow").came("x").due(2, "blockNow").row("inBlock 0 1", 1, 1, 54);
        m.came("n").row("inBlock 0 1", 1, 1, 54).row("inBlock 0 2", 1, 0, 0).due(2, "blockNow");
        m.came(dots(29)).due(2, "blockNow").came("5").row("inBlock 0 2", 6, 0, 30).due(0, "blockNow");
        m.came("6").row("inBlock 0 2", 6, 0, 30).row("inBlock 1 0", 6, 0, 1).row("inBlock 1 2", 0, 0, 0);
        // A CUT moves the bounds: of 3 overs each BLOCK has one; of 2 the THIRD none; of 1 the SECOND all.
        Run cut = Run.of(4, "111111222222").due(1, "blockNow").row("inBlock 0 1", 12, 0, 6);
        cut.came("c3").due(2, "blockNow").row("inBlock 0 0", 6, 0, 6).row("inBlock 0 1", 12, 0, 6);
        cut.came("w").row("inBlock 0 2", 1, 0, 0).came("c2").due(1, "count 1").row("block 0", 1, 1, 0);
        cut.row("inBlock 0 0", 6, 0, 6).row("inBlock 0 1", 12, 0, 6).row("inBlock 0 2", 0, 0, 0);
        Run one = Run.of(2, "12").due(0, "blockNow").came("c1").due(1, "blockNow").row("inBlock 0 0", 0, 0, 0);
        one.row("inBlock 0 1", 3, 0, 2);
        // A BLOCK of none: never the one of the next ball.
        Run none = new Run().due(1, "set 3 0").due(1, "blockNow").row("inBlock 0 0", 0, 0, 0).came("4");
        none.row("inBlock 0 0", 0, 0, 0).row("inBlock 0 1", 4, 0, 1);
        Run ends = new Run().due(1, "set 3 11").came(dots(65)).due(0, "blockNow").came("0").due(1, "blockNow");
        ends.came(dots(53)).due(1, "blockNow");
    }

    private static void blockNow() {
        Run.leaves(run -> run.came("4//"), NONE, "blockNow");
        Run.leaves(InningsBoundsTest::midst, 0, "blockNow");
        Run.of(1, dots(5)).due(1, "blockNow").came("0").due(1, "blockNow", "count 1");
        Run.of(1, dots(6) + dots(5)).due(1, "blockNow").came("0").due(NONE, "blockNow");
        Run.of(2, "0/").due(0, "blockNow").came("/").due(NONE, "blockNow");
    }

    // ---- Promises 20, 21, 22

    private static void fall() {
        leaveAll(NONE, "fall 0 -1 0", "fall 0 2 0", "fall 1 1 0", "fall 0 0 -1", "fall 0 0 3", "fall 2 0 0",
            "fall -1 0 0");
        Run m = Run.of(2, "").due(NONE, "fall 0 0 0", "fall 1 0 0").came("4wx");
        m.row("fall 0 0", 5, 2, 5).due(NONE, "fall 0 1 0", "fall 0 0 3", "fall 1 0 0").due(2, "back")
            .due(NONE, "fall 0 0 0");
        for (String v : new String[] {"MIN", "MAX"}) {
            m.came("x").due(NONE, "fall " + v + " 0 0", "fall 0 " + v + " 0", "fall 0 0 " + v).due(2, "back");
        }
        // ten of them: with the first ball, one behind the other, with the last ball
        Run ten = Run.of(2, "x1xxxxxxx2wx").row("fall 0 0", 0, 1, 0).row("fall 0 1", 1, 3, 1).row("fall 0 2", 1, 4, 0);
        ten.row("fall 0 8", 4, 11, 3).due(NONE, "fall 0 9 0").came("x").due(1, "count 1");
        ten.row("fall 0 9", 4, 12, 0).due(NONE, "fall 0 10 0", "fall 0 9 3").due(NONE, "fall 1 0 0");
    }

    private static void stands() {
        for (String i : NO_INNINGS) {
            leaveAll(NONE, "lastStand " + i, "bestStand " + i);
        }
        new Run().due(0, "lastStand 0", "lastStand 1", "bestStand 0", "bestStand 1");
        new Run().came("4w").due(5, "lastStand 0", "bestStand 0").came("x").due(0, "lastStand 0").due(5, "bestStand 0");
        // that behind the last wicket is the greatest, as great, less
        new Run().came("4wx5").due(5, "lastStand 0", "bestStand 0").came("w").due(6, "lastStand 0", "bestStand 0");
        new Run().came("4wx4").due(4, "lastStand 0").due(5, "bestStand 0", "fall 0 0 2");
        // nine wickets: there is one behind them; ten: there is none, and the greatest is one of the ten
        Run m = Run.of(3, "xxxxxxxx3x").due(0, "lastStand 0").due(3, "bestStand 0").came("2");
        m.due(2, "lastStand 0").due(3, "bestStand 0").came("2").due(4, "lastStand 0", "bestStand 0");
        m.came("x").due(NONE, "lastStand 0").due(4, "bestStand 0", "fall 0 9 2").due(0, "lastStand 1", "bestStand 1");
        Run.of(2, "xxxxxxxxxx").due(NONE, "lastStand 0").due(0, "bestStand 0");
        Run.of(3, "1" + dots(17) + "xxxxxxxxx").due(0, "lastStand 1").came("x").due(NONE, "lastStand 1")
            .due(1, "lastStand 0");
    }

    // ---- Promises 23, 24, 25

    private static void made() {
        leaveAll(NONE, "made 0 -1", "made 0 7", "made 1 7", "made 2 0", "made -1 0", "made 0 MIN", "made 0 MAX",
            "made MIN 0",
            "made MAX 0");
        new Run().row("made 0", 0, 0, 0, 0, 0, 0, 0).row("made 1", 0, 0, 0, 0, 0, 0, 0);
        Run m = new Run().came("0123456").row("made 0", 1, 1, 1, 1, 1, 1, 1).came("xwn660");
        m.row("made 0", 3, 1, 1, 1, 1, 1, 3).row("made 1", 0, 0, 0, 0, 0, 0, 0);
    }

    private static void bestOver() {
        for (String i : NO_INNINGS) {
            leaveAll(NONE, "bestOver " + i);
        }
        new Run().due(NONE, "bestOver 0", "bestOver 1").came("c19 d19").due(NONE, "bestOver 0", "bestOver 1");
        new Run().came("0").due(0, "bestOver 0").due(NONE, "bestOver 1").due(0, "back").due(NONE, "bestOver 0");
        new Run().came("w").due(0, "bestOver 0");
        new Run().came("x").due(0, "bestOver 0");
        new Run().came("/").due(NONE, "bestOver 0", "bestOver 1").came("n").due(0, "bestOver 1");
        // "of several the first": as many runs are not more
        Run m = new Run().came("400000" + "300000").due(0, "bestOver 0").came("2").due(0, "bestOver 0").came("2");
        m.due(0, "bestOver 0").came("w").due(2, "bestOver 0");
        new Run().came(dots(6) + "4").due(1, "bestOver 0");
        new Run().came(dots(6) + "w").due(1, "bestOver 0");
        new Run().came(dots(119)).due(0, "bestOver 0").came("1").due(19, "bestOver 0");
    }

    private static void rate() {
        for (String i : NO_INNINGS) {
            leaveAll(NONE, "rate " + i + " false", "rate " + i + " true");
        }
        Run m = new Run().due(NONE, "rate 0 false", "rate 0 true", "rate 1 false", "rate 1 true").came("w");
        m.due(NONE, "rate 0 false", "rate 0 true").came("0").due(6, "rate 0 false").due(1, "rate 0 true");
        new Run().came("0").due(0, "rate 0 false").due(1, "rate 0 true").came("0").due(0, "rate 0 false")
            .due(1, "rate 0 true");
        // six times the runs by the balls: 6 by 7 has no less terms, 6 by 8, 9, 12 have
        new Run().came("1" + dots(6)).due(6, "rate 0 false").due(7, "rate 0 true").came("0").due(3, "rate 0 false")
            .due(4, "rate 0 true").came("0").due(2, "rate 0 false").due(3, "rate 0 true").came("000")
            .due(1, "rate 0 false").due(2, "rate 0 true");
        // the most that can be: 281 w, 119 sixes
        new Run().came("w".repeat(281)).came("6".repeat(119)).due(6 * 995, "rate 0 false").due(119, "rate 0 true");
        new Run().came("6".repeat(120)).due(36, "rate 0 false").due(1, "rate 0 true");
    }

    // ---- Promise 26

    /** "NONE: the first innings is not in play, there is none" (nothing is used). */
    private static void projected() {
        Run.leaves(run -> run.came("w"), NONE, "projected");
        Run m = Run.of(2, "").due(NONE, "projected").came("w").due(NONE, "projected").came("c1").due(NONE, "projected");
        m.came("0").due(6, "projected").came("w").due(12, "projected").came("00").due(4, "projected");
        m.came("00").due(2, "projected").came("0").due(1, "count 1").due(NONE, "projected");
        Run.of(2, "4/").due(NONE, "projected").came("4").due(NONE, "projected").came("/").due(NONE, "projected");
        Run.of(2, "4").due(48, "projected").came("x").due(16, "projected");
        // cut: 7 times 12 by 11 is 7 and a rest
        Run.of(2, "61" + dots(9)).due(7, "projected");
        Run.of(2, "65" + dots(9)).due(12, "projected");
        // Only the last thirty balls use something, and the tenth wicket.
        Run flat = new Run().table(10, Run.allRows(1)).came("1x" + dots(88)).due(NONE, "projected");
        flat.came("0").due(30, "projected").came("0").due(15, "projected");
        // 849 runs, one thirtieth of PART used
        new Run().table(10, Run.allRows(1)).came("6".repeat(90) + "0" + "w".repeat(309)).due(849 * 30, "projected");
    }

    public static void main(String[] args) {
        innings();
        cut();
        over();
        block();
        inBlock();
        blockNow();
        fall();
        stands();
        made();
        bestOver();
        rate();
        projected();
        Run.close();
    }
}
