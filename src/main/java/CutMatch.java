import java.util.NoSuchElementException;

/** A match of two innings that rain may cut; ../shared/DOC.md numbers what it promises. */
public final class CutMatch {
    public static final int NONE = -1;

    private static final int NO_SUCH_MOMENT = -2;

    private static final int MOST_BYTES = 500;
    private static final int FED_BYTES = 20;
    private static final int MOST_EVENTS = 400;
    private static final int MOST_OVERS = 20;
    private static final int BALLS_OF_OVER = 6;
    private static final int ALL_WICKETS = 10;
    private static final int BLOCKS = 3;
    private static final int MOST_RUNS_ASKED = 999;

    private static final int CANT_STAND = 1;
    private static final int CANT_BE = 2;
    private static final int CANT_COME = 3;
    private static final int ROW_FALLS = 4;

    private final Rules rules;
    private final Tape tape;
    private final Course live;
    // Used again by every call that asks how it was, so that no such call makes anything.
    private final Course earlier;
    private final int[] logEvents;
    private final int[] logNumbers;
    private int logSize;
    private int latestFault;
    private int rowsRead;

    public CutMatch() {
        rules = new Rules();
        tape = new Tape();
        live = new Course(rules);
        earlier = new Course(rules);
        logEvents = new int[MOST_EVENTS];
        logNumbers = new int[MOST_EVENTS];
    }

    // ---- what is told

    public int feed(int a, int b, int c, int d, int e) {
        if (tape.length + FED_BYTES > MOST_BYTES) {
            return NONE;
        }
        tape.append(a);
        tape.append(b);
        tape.append(c);
        tape.append(d);
        tape.append(e);
        return tape.length;
    }

    public boolean end(int n) {
        if (n < 0 || n > tape.length) {
            return false;
        }
        tape.length = n;
        return true;
    }

    public int table() {
        latestFault = readTable();
        tape.length = 0;
        if (latestFault != 0) {
            return NONE;
        }
        rules.adoptProposal();
        emptyLog();
        return rowsRead;
    }

    public int events() {
        int before = logSize;
        latestFault = 0;
        tape.rewind();
        for (int step = 0; step < MOST_BYTES && latestFault == 0 && tape.seek(); step++) {
            latestFault = readEvent();
        }
        tape.length = 0;
        if (latestFault != 0) {
            logSize = before;
            replay(live, before);
            return NONE;
        }
        return logSize - before;
    }

    public int fault() {
        return latestFault;
    }

    public boolean set(int setting, int v) {
        if (!rules.allows(setting, v) || rules.setting(setting) == v) {
            return false;
        }
        rules.change(setting, v);
        emptyLog();
        return true;
    }

    public int play(int event, int n) {
        if (!isEvent(event) || !canCome(event)) {
            return NONE;
        }
        if (bearsNumber(event) && !live.fits(event, n)) {
            return NONE;
        }
        record(event, n);
        return logSize;
    }

    public int back() {
        if (logSize <= 0) {
            return NONE;
        }
        logSize--;
        replay(live, logSize);
        return logSize;
    }

    public int clear() {
        int before = logSize;
        emptyLog();
        return before;
    }

    public int count(int what) {
        switch (what) {
            case 0:
                return logSize;
            case 1:
                return live.inPlay;
            case 2:
                return tape.length;
            case 3:
                return rules.full();
            default:
                return what >= 10 && what <= 14 ? rules.setting(what - 10) : NONE;
        }
    }

    public int worth(int balls, int wickets) {
        if (balls < 0 || balls > Rules.MOST_BALLS || wickets < 0 || wickets > ALL_WICKETS) {
            return NONE;
        }
        return rules.worthOf(balls, wickets);
    }

    public int told(int w, int k) {
        if (w < 0 || w >= Rules.ROWS || k < 1 || k >= Rules.COLUMNS) {
            return NONE;
        }
        return rules.number(w, k);
    }

    // ---- innings (0, 1)

    public int innings(int i, int what) throws NoSuchElementException {
        if (!isSide(i)) {
            throw new NoSuchElementException("no such innings");
        }
        Innings side = live.side(i);
        switch (what) {
            case 0:
                return side.runs;
            case 1:
                return side.wickets;
            case 2:
                return side.balls;
            case 3:
                return side.overs;
            case 4:
                return side.part - side.closedTook;
            case 5:
                return side.cuts;
            case 6:
                return side.closed ? 1 : 0;
            case 7:
                return side.extras;
            case 8:
                return live.ballsLeft(i);
            default:
                throw new NoSuchElementException("nothing such is counted of an innings");
        }
    }

    public int cut(int i, int k, int what) throws NoSuchElementException {
        if (!isSide(i) || !live.side(i).hasCut(k) || what < 0 || what >= Innings.CUT_FACTS) {
            throw new NoSuchElementException("no such cut");
        }
        return live.side(i).cutFact(k, what);
    }

    public int over(int i, int k, int what) {
        if (!isSide(i) || k < 0 || k >= MOST_OVERS || !isOverFact(what)) {
            return NONE;
        }
        return live.side(i).overFact(k, what);
    }

    public int block(int i, int k) {
        if (!isSide(i) || !isBlock(k)) {
            return NONE;
        }
        return rules.blockOvers(live.side(i).overs, k);
    }

    public int blockNow() {
        if (live.inPlay > 1) {
            return NONE;
        }
        Innings side = live.side(live.inPlay);
        int passed = rules.blockOvers(side.overs, 0);
        int now = side.balls / BALLS_OF_OVER;
        if (now < passed) {
            return 0;
        }
        passed += rules.blockOvers(side.overs, 1);
        return now < passed ? 1 : 2;
    }

    public int inBlock(int i, int k, int what) {
        if (!isSide(i) || !isBlock(k) || !isOverFact(what)) {
            return NONE;
        }
        return live.blockFact(i, k, what);
    }

    public int fall(int i, int k, int what) {
        if (!isSide(i) || !live.side(i).hasFall(k)) {
            return NONE;
        }
        Innings side = live.side(i);
        switch (what) {
            case 0:
                return side.runsAtFall(k);
            case 1:
                return side.ballsAtFall(k);
            case 2:
                return side.standOf(k);
            default:
                return NONE;
        }
    }

    public int lastStand(int i) {
        if (!isSide(i) || live.side(i).wickets >= ALL_WICKETS) {
            return NONE;
        }
        return live.side(i).openStand();
    }

    public int bestStand(int i) {
        return isSide(i) ? live.side(i).greatestStand() : NONE;
    }

    public int made(int i, int runs) {
        if (!isSide(i) || runs < 0 || runs > Innings.MOST_RUNS_OF_BALL) {
            return NONE;
        }
        return live.side(i).ballsThatMade(runs);
    }

    public int bestOver(int i) {
        if (!isSide(i)) {
            return NONE;
        }
        Innings side = live.side(i);
        return side.balls == 0 && side.runs == 0 ? NONE : side.greatestOver();
    }

    public int rate(int i, boolean under) {
        if (!isSide(i) || live.side(i).balls <= 0) {
            return NONE;
        }
        Innings side = live.side(i);
        return inLeastTerms(BALLS_OF_OVER * side.runs, side.balls, under);
    }

    public int projected() {
        return live.inPlay == 0 ? live.projection() : NONE;
    }

    // ---- the chase

    public int target() {
        return live.theTarget();
    }

    public int par() {
        return live.parNow();
    }

    public int result() {
        return live.inPlay == 2 ? live.outcome(live.second.closed) : NONE;
    }

    public int margin() {
        return live.inPlay == 2 ? live.leadAtEnd() : NONE;
    }

    public int needs(int what) {
        if (live.inPlay != 1 || !live.hasTarget()) {
            return NONE;
        }
        int missing = live.theTarget() - live.second.runs;
        int left = live.ballsLeft(1);
        switch (what) {
            case 0:
                return missing;
            case 1:
                return left;
            case 2:
                return inLeastTerms(BALLS_OF_OVER * missing, left, false);
            case 3:
                return inLeastTerms(BALLS_OF_OVER * missing, left, true);
            default:
                return NONE;
        }
    }

    public int broken(int rule) {
        if (rule < 0 || rule > 3 || result() != 3) {
            return NONE;
        }
        int lead = live.leadByRule(rule);
        if (lead == 0) {
            return 0;
        }
        return lead > 0 ? 1 : 2;
    }

    // ---- what would be

    public int ifCut(int n) {
        if (!secondCanBeCut(n)) {
            return NONE;
        }
        return live.targetIfCut(n);
    }

    public int ifClosed() {
        return live.inPlay == 1 ? live.outcome(true) : NONE;
    }

    public int ifRuns(int runs) {
        if (runs < 0 || runs > MOST_RUNS_ASKED || !live.hasTarget()) {
            return NONE;
        }
        return live.targetBy(runs, live.second.part);
    }

    public int leastCut(int v) {
        for (int n = 1; n < MOST_OVERS; n++) {
            if (secondCanBeCut(n) && live.targetIfCut(n) - live.second.runs >= v) {
                return n;
            }
        }
        return NONE;
    }

    public int after(int k, int what) {
        if (k < 0 || k > logSize || what < 0 || what > 5) {
            return NO_SUCH_MOMENT;
        }
        replay(earlier, k);
        Innings side = earlier.side(earlier.inPlay);
        switch (what) {
            case 0:
                return earlier.inPlay;
            case 1:
                return side.runs;
            case 2:
                return side.wickets;
            case 3:
                return side.balls;
            case 4:
                return earlier.theTarget();
            default:
                return earlier.parNow();
        }
    }

    public int firstAhead() {
        earlier.restart();
        for (int k = 0; k < logSize && k < MOST_EVENTS; k++) {
            earlier.take(logEvents[k], logNumbers[k]);
            int even = earlier.parNow();
            if (even != NONE && earlier.second.runs > even) {
                return k + 1;
            }
        }
        return NONE;
    }

    // ---- the log

    private void emptyLog() {
        logSize = 0;
        live.restart();
    }

    private void replay(Course course, int events) {
        course.restart();
        for (int k = 0; k < events && k < MOST_EVENTS; k++) {
            course.take(logEvents[k], logNumbers[k]);
        }
    }

    private void record(int event, int n) {
        if (logSize < 0 || logSize >= MOST_EVENTS) {
            return;
        }
        logEvents[logSize] = event;
        logNumbers[logSize] = n;
        logSize++;
        live.take(event, n);
    }

    private boolean canCome(int event) {
        return logSize < MOST_EVENTS && live.admits(event);
    }

    private boolean secondCanBeCut(int n) {
        return live.inPlay == 1 && live.hasTarget() && canCome('c') && live.fits('c', n);
    }

    // ---- texts

    private int readTable() {
        rowsRead = 0;
        rules.beginProposal();
        tape.rewind();
        for (int step = 0; step < MOST_BYTES && tape.seek(); step++) {
            int fault = readRow();
            if (fault != 0) {
                return fault;
            }
            rowsRead++;
        }
        return rules.proposalHolds() ? 0 : ROW_FALLS + 8 * tape.length;
    }

    private int readRow() {
        if (!tape.readRowWord()) {
            return faultHere(CANT_STAND);
        }
        int w = 0;
        for (int k = 0; k < Rules.COLUMNS; k++) {
            if (!tape.readNumber()) {
                return faultHere(CANT_STAND);
            }
            if (!Rules.canStandInRow(k, tape.number)) {
                return faultHere(CANT_BE);
            }
            if (k == 0) {
                w = tape.number;
            } else {
                rules.propose(w, k, tape.number);
            }
        }
        return tape.readByte(';') ? 0 : faultHere(CANT_STAND);
    }

    private int readEvent() {
        int event = tape.takeByte();
        if (!isEvent(event)) {
            return faultHere(CANT_STAND);
        }
        if (!canCome(event)) {
            return faultHere(CANT_COME);
        }
        int n = 0;
        if (bearsNumber(event)) {
            if (!tape.readNumber()) {
                return faultHere(CANT_STAND);
            }
            n = tape.number;
            if (!live.fits(event, n)) {
                return faultHere(CANT_BE);
            }
        }
        record(event, n);
        return 0;
    }

    private int faultHere(int kind) {
        return kind + 8 * tape.start;
    }

    // ---- small questions

    private static boolean isEvent(int event) {
        return event >= '0' && event <= '6' || event == 'x' || event == 'w' || event == 'n'
            || event == '/' || bearsNumber(event);
    }

    private static boolean bearsNumber(int event) {
        return event == 'c' || event == 'd';
    }

    private static boolean isSide(int i) {
        return i == 0 || i == 1;
    }

    private static boolean isBlock(int k) {
        return k >= 0 && k < BLOCKS;
    }

    private static boolean isOverFact(int what) {
        return what >= 0 && what < Innings.OVER_FACTS;
    }

    private static int inLeastTerms(int upper, int lower, boolean under) {
        int divisor = commonDivisor(upper, lower);
        if (divisor <= 0) {
            return NONE;
        }
        return (under ? lower : upper) / divisor;
    }

    private static int commonDivisor(int a, int b) {
        int greater = a;
        int less = b;
        // Euclid's steps for numbers of 31 bits are fewer than 64.
        for (int step = 0; step < 64 && less != 0; step++) {
            int rest = greater % less;
            greater = less;
            less = rest;
        }
        return greater;
    }

    /** The TABLE and the SETTINGS, and what follows from these alone. */
    private static final class Rules {
        static final int ROWS = 10;
        static final int COLUMNS = 5;
        static final int MOST_BALLS = 120;

        static final int OVERS = 0;
        static final int MEAN = 1;
        static final int LEAST = 2;
        static final int FIRST_BLOCK = 3;
        static final int SECOND_BLOCK = 4;

        private static final int CELLS = 50;
        private static final int SETTINGS = 5;
        private static final int BALLS_OF_COLUMN = 30;
        private static final int GREATEST_NUMBER = 1000;
        private static final int[] LOWEST = {1, 1, 1, 0, 0};
        private static final int[] HIGHEST = {20, 400, 20, 20, 20};
        private static final int[] AT_FIRST = {20, 150, 5, 6, 9};

        // T(w, k) stands at 5 w + k; T(w, 0) is always 0.
        private final int[] cells;
        private final int[] proposal;
        private final int[] settings;

        Rules() {
            cells = new int[CELLS];
            proposal = new int[CELLS];
            settings = new int[SETTINGS];
            for (int at = 0; at < CELLS; at++) {
                cells[at] = 25 * (at % COLUMNS) * (ROWS - at / COLUMNS);
            }
            for (int s = 0; s < SETTINGS; s++) {
                settings[s] = AT_FIRST[s];
            }
        }

        int number(int w, int k) {
            if (w < 0 || w >= ROWS || k < 0 || k >= COLUMNS) {
                return 0;
            }
            return cells[COLUMNS * w + k];
        }

        int worthOf(int balls, int wickets) {
            if (balls <= 0 || balls > MOST_BALLS || wickets < 0 || wickets >= ROWS) {
                return 0;
            }
            int at = COLUMNS * wickets + balls / BALLS_OF_COLUMN;
            int more = balls % BALLS_OF_COLUMN;
            // Of 120 balls there is no column beyond, and no ball more either.
            int step = more == 0 ? 0 : cells[at + 1] - cells[at];
            return BALLS_OF_COLUMN * cells[at] + more * step;
        }

        int full() {
            return BALLS_OF_COLUMN * cells[COLUMNS - 1];
        }

        int worthOfOvers(int overs) {
            return worthOf(BALLS_OF_OVER * overs, 0);
        }

        int setting(int s) {
            return s >= 0 && s < SETTINGS ? settings[s] : NONE;
        }

        boolean allows(int s, int v) {
            if (s < 0 || s >= SETTINGS || v < LOWEST[s] || v > HIGHEST[s]) {
                return false;
            }
            if (s == FIRST_BLOCK) {
                return v + settings[SECOND_BLOCK] <= MOST_OVERS;
            }
            return s != SECOND_BLOCK || v + settings[FIRST_BLOCK] <= MOST_OVERS;
        }

        void change(int s, int v) {
            if (s >= 0 && s < SETTINGS) {
                settings[s] = v;
            }
        }

        /** How many of 20 overs are of the block. */
        private int shareOf(int k) {
            if (k == 0) {
                return settings[FIRST_BLOCK];
            }
            if (k == 1) {
                return settings[SECOND_BLOCK];
            }
            return MOST_OVERS - settings[FIRST_BLOCK] - settings[SECOND_BLOCK];
        }

        int blockOvers(int overs, int k) {
            int mine = overs * shareOf(k);
            int spare = overs;
            int served = 0;
            for (int other = 0; other < BLOCKS; other++) {
                int theirs = overs * shareOf(other);
                int gap = theirs % MOST_OVERS - mine % MOST_OVERS;
                spare -= theirs / MOST_OVERS;
                if (gap > 0 || gap == 0 && other < k) {
                    served++;
                }
            }
            return mine / MOST_OVERS + (served < spare ? 1 : 0);
        }

        static boolean canStandInRow(int k, int v) {
            return k == 0 ? v >= 0 && v < ROWS : v >= 1 && v <= GREATEST_NUMBER;
        }

        void beginProposal() {
            for (int at = 0; at < CELLS; at++) {
                proposal[at] = cells[at];
            }
        }

        void propose(int w, int k, int v) {
            if (w >= 0 && w < ROWS && k >= 1 && k < COLUMNS) {
                proposal[COLUMNS * w + k] = v;
            }
        }

        boolean proposalHolds() {
            for (int at = 0; at < CELLS; at++) {
                if (at % COLUMNS > 0 && proposal[at] < proposal[at - 1]) {
                    return false;
                }
                if (at >= COLUMNS && proposal[at] > proposal[at - COLUMNS]) {
                    return false;
                }
            }
            return true;
        }

        void adoptProposal() {
            for (int at = 0; at < CELLS; at++) {
                cells[at] = proposal[at];
            }
        }
    }

    /** The bytes that were fed, and the reading of them token by token. */
    private static final class Tape {
        private static final int MOST_DIGITS = 4;
        private static final int TOO_LONG = -1;

        private final int[] bytes;
        int length;
        /** The first byte of the token read last, or the length at the end. */
        int start;
        /** The NUMBER read last; below 0 if it has too many digits. */
        int number;
        private int next;

        Tape() {
            bytes = new int[MOST_BYTES];
        }

        void append(int word) {
            for (int shift = 24; shift >= 0; shift -= 8) {
                if (length >= 0 && length < MOST_BYTES) {
                    bytes[length] = word >>> shift & 255;
                    length++;
                }
            }
        }

        private int byteAt(int place) {
            return place >= 0 && place < length && place < MOST_BYTES ? bytes[place] : NONE;
        }

        void rewind() {
            start = 0;
            next = 0;
        }

        /** Goes to the next token; false at the end. */
        boolean seek() {
            while (next < length && (byteAt(next) == ' ' || byteAt(next) == '\n')) {
                next++;
            }
            start = next;
            return start < length;
        }

        int takeByte() {
            int taken = byteAt(next);
            if (next < length) {
                next++;
            }
            return taken;
        }

        boolean readByte(int wanted) {
            return seek() && takeByte() == wanted;
        }

        boolean readRowWord() {
            if (!seek()) {
                return false;
            }
            while (next < length && byteAt(next) >= 'a' && byteAt(next) <= 'z') {
                next++;
            }
            return next - start == 3 && byteAt(start) == 'r' && byteAt(start + 1) == 'o'
                && byteAt(start + 2) == 'w';
        }

        boolean readNumber() {
            seek();
            number = 0;
            while (next < length && byteAt(next) >= '0' && byteAt(next) <= '9') {
                boolean fits = next - start < MOST_DIGITS;
                number = fits ? 10 * number + byteAt(next) - '0' : TOO_LONG;
                next++;
            }
            return next > start;
        }
    }

    /** One innings as it stands. */
    private static final class Innings {
        static final int MOST_RUNS_OF_BALL = 6;
        static final int CUT_FACTS = 5;
        static final int OVER_FACTS = 3;

        // Each cut leaves fewer overs, 1 at the least.
        private static final int MOST_CUTS = 19;

        int runs;
        int wickets;
        int balls;
        int overs;
        int extras;
        int cuts;
        boolean closed;
        /** PART without what CLOSED takes. */
        int part;
        int closedTook;
        private final int[] overFacts;
        private final int[] cutFacts;
        private final int[] madeBalls;
        private final int[] fallRuns;
        private final int[] fallBalls;

        Innings() {
            overFacts = new int[MOST_OVERS * OVER_FACTS];
            cutFacts = new int[MOST_CUTS * CUT_FACTS];
            madeBalls = new int[MOST_RUNS_OF_BALL + 1];
            fallRuns = new int[ALL_WICKETS];
            fallBalls = new int[ALL_WICKETS];
        }

        void restart(int oversAtFirst, int worthAtFirst) {
            runs = 0;
            wickets = 0;
            balls = 0;
            extras = 0;
            cuts = 0;
            closed = false;
            closedTook = 0;
            beginWith(oversAtFirst, worthAtFirst);
            for (int at = 0; at < MOST_OVERS * OVER_FACTS; at++) {
                overFacts[at] = 0;
            }
            for (int r = 0; r <= MOST_RUNS_OF_BALL; r++) {
                madeBalls[r] = 0;
            }
        }

        void beginWith(int newOvers, int newWorth) {
            overs = newOvers;
            part = newWorth;
        }

        private void addToOver(int what, int more) {
            int k = balls / BALLS_OF_OVER;
            if (k >= 0 && k < MOST_OVERS && what >= 0 && what < OVER_FACTS) {
                overFacts[OVER_FACTS * k + what] += more;
            }
        }

        void addExtra() {
            addToOver(0, 1);
            extras++;
            runs++;
        }

        void addBall(int made) {
            if (made < 0 || made > MOST_RUNS_OF_BALL) {
                return;
            }
            madeBalls[made]++;
            addToOver(0, made);
            addToOver(2, 1);
            runs += made;
            balls++;
        }

        void addWicket() {
            if (wickets < 0 || wickets >= ALL_WICKETS) {
                return;
            }
            addToOver(1, 1);
            addBall(0);
            fallRuns[wickets] = runs;
            fallBalls[wickets] = balls;
            wickets++;
        }

        void addCut(int newOvers, int took) {
            if (cuts < 0 || cuts >= MOST_CUTS) {
                return;
            }
            int at = CUT_FACTS * cuts;
            cutFacts[at] = balls;
            cutFacts[at + 1] = wickets;
            cutFacts[at + 2] = overs;
            cutFacts[at + 3] = newOvers;
            cutFacts[at + 4] = took;
            cuts++;
            overs = newOvers;
            part -= took;
        }

        void addClose(int took) {
            closed = true;
            closedTook = took;
        }

        boolean isWorn() {
            return closed || wickets >= ALL_WICKETS || balls >= BALLS_OF_OVER * overs;
        }

        boolean hasCut(int k) {
            return k >= 0 && k < cuts && k < MOST_CUTS;
        }

        int cutFact(int k, int what) {
            if (!hasCut(k) || what < 0 || what >= CUT_FACTS) {
                return NONE;
            }
            return cutFacts[CUT_FACTS * k + what];
        }

        int overFact(int k, int what) {
            if (k < 0 || k >= MOST_OVERS || what < 0 || what >= OVER_FACTS) {
                return 0;
            }
            return overFacts[OVER_FACTS * k + what];
        }

        int ballsThatMade(int made) {
            return made >= 0 && made <= MOST_RUNS_OF_BALL ? madeBalls[made] : 0;
        }

        boolean hasFall(int k) {
            return k >= 0 && k < wickets && k < ALL_WICKETS;
        }

        int runsAtFall(int k) {
            return hasFall(k) ? fallRuns[k] : 0;
        }

        int ballsAtFall(int k) {
            return hasFall(k) ? fallBalls[k] : 0;
        }

        int standOf(int k) {
            return runsAtFall(k) - runsAtFall(k - 1);
        }

        int openStand() {
            return runs - runsAtFall(wickets - 1);
        }

        int greatestStand() {
            // Behind the tenth wicket no run can come, so that the open one is 0 there.
            int greatest = openStand();
            for (int k = 0; k < wickets && k < ALL_WICKETS; k++) {
                greatest = Math.max(greatest, standOf(k));
            }
            return greatest;
        }

        int greatestOver() {
            int best = 0;
            for (int k = 1; k < MOST_OVERS; k++) {
                if (overFact(k, 0) > overFact(best, 0)) {
                    best = k;
                }
            }
            return best;
        }
    }

    /** How the match stands behind some events. */
    private static final class Course {
        private final Rules rules;
        final Innings first;
        final Innings second;
        int inPlay;
        /** No EVENT but d has come in the second innings. */
        private boolean secondUntouched;

        Course(Rules theRules) {
            rules = theRules;
            first = new Innings();
            second = new Innings();
            restart();
        }

        final void restart() {
            int overs = rules.setting(Rules.OVERS);
            first.restart(overs, rules.worthOfOvers(overs));
            second.restart(overs, rules.worthOfOvers(overs));
            inPlay = 0;
            secondUntouched = true;
        }

        /** The second one also when the match is over. */
        Innings side(int i) {
            return i == 0 ? first : second;
        }

        boolean admits(int event) {
            return inPlay < 2 && (event != 'd' || secondUntouched);
        }

        boolean fits(int event, int n) {
            if (n < 1 || n > MOST_OVERS) {
                return false;
            }
            if (event == 'd') {
                return n < second.overs;
            }
            Innings side = side(inPlay);
            return n < side.overs && BALLS_OF_OVER * n >= side.balls;
        }

        void take(int event, int n) {
            if (event == 'd') {
                second.beginWith(n, rules.worthOfOvers(n));
                return;
            }
            if (inPlay == 1) {
                secondUntouched = false;
            }
            Innings side = side(inPlay);
            if (event == '/') {
                side.addClose(worthLeft());
            } else if (event == 'c') {
                side.addCut(n, lossByCut(n));
            } else if (event == 'x') {
                side.addWicket();
            } else if (event == 'w' || event == 'n') {
                side.addExtra();
            } else {
                side.addBall(event - '0');
            }
            if (side.isWorn() || targetReached()) {
                inPlay++;
            }
        }

        private boolean targetReached() {
            return inPlay == 1 && hasTarget() && second.runs >= targetBy(first.runs, second.part);
        }

        int ballsLeft(int i) {
            Innings side = side(i);
            return i < inPlay ? 0 : BALLS_OF_OVER * side.overs - side.balls;
        }

        /** WORTH of what is left of the innings in play. */
        private int worthLeft() {
            Innings side = side(inPlay);
            return rules.worthOf(BALLS_OF_OVER * side.overs - side.balls, side.wickets);
        }

        private int lossByCut(int n) {
            Innings side = side(inPlay);
            return worthLeft() - rules.worthOf(BALLS_OF_OVER * n - side.balls, side.wickets);
        }

        int blockFact(int i, int k, int what) {
            Innings side = side(i);
            int from = 0;
            for (int ahead = 0; ahead < k && ahead < BLOCKS; ahead++) {
                from += rules.blockOvers(side.overs, ahead);
            }
            int till = from + rules.blockOvers(side.overs, k);
            int sum = 0;
            for (int at = from; at < till && at < MOST_OVERS; at++) {
                sum += side.overFact(at, what);
            }
            return sum;
        }

        int projection() {
            int used = first.part - worthLeft();
            return used > 0 ? first.runs * first.part / used : NONE;
        }

        private int firstPart() {
            return first.part - first.closedTook;
        }

        boolean hasTarget() {
            return inPlay > 0 && firstPart() > 0;
        }

        int targetBy(int runs, int q) {
            int p = firstPart();
            int full = rules.full();
            if (p <= 0 || full <= 0) {
                return NONE;
            }
            if (q < p) {
                return runs * q / p + 1;
            }
            return runs + rules.setting(Rules.MEAN) * (q - p) / full + 1;
        }

        int theTarget() {
            return hasTarget() ? targetBy(first.runs, second.part) : NONE;
        }

        int targetIfCut(int n) {
            return targetBy(first.runs, second.part - lossByCut(n));
        }

        int parNow() {
            return inPlay == 1 && hasTarget() ? parWithout(worthLeft()) : NONE;
        }

        private int parWithout(int left) {
            return targetBy(first.runs, second.part - left) - 1;
        }

        /** By how many runs the second side is above what makes a tie, closed or not. */
        private int leadOverTie(boolean asClosed) {
            int tie = theTarget() - 1;
            if (asClosed) {
                tie = parWithout(second.closed ? second.closedTook : worthLeft());
            }
            return second.runs - tie;
        }

        /** RESULT, the second innings being CLOSED or having ended without that. */
        int outcome(boolean asClosed) {
            boolean tooShort = second.balls < BALLS_OF_OVER * rules.setting(Rules.LEAST);
            if (!hasTarget() || asClosed && tooShort) {
                return 0;
            }
            int lead = leadOverTie(asClosed);
            if (lead == 0) {
                return 3;
            }
            return lead < 0 ? 1 : 2;
        }

        int leadAtEnd() {
            switch (outcome(second.closed)) {
                case 1:
                    return -leadOverTie(second.closed);
                case 2:
                    return second.runs >= theTarget() ? ALL_WICKETS - second.wickets
                        : leadOverTie(second.closed);
                default:
                    return 0;
            }
        }

        /** Above 0 if the RULE is for the first side, below 0 if for the second. */
        int leadByRule(int rule) {
            switch (rule) {
                case 0:
                    return second.wickets - first.wickets;
                case 1:
                    return blockFact(0, 0, 0) - blockFact(1, 0, 0);
                case 2:
                    return boundaries(first) - boundaries(second);
                default:
                    return first.overFact(first.greatestOver(), 0)
                        - second.overFact(second.greatestOver(), 0);
            }
        }

        private static int boundaries(Innings side) {
            return side.ballsThatMade(4) + side.ballsThatMade(6);
        }
    }
}
