import java.util.ArrayList;
import java.util.Arrays;
import java.util.List;
import java.util.NoSuchElementException;
import java.util.Random;
import java.util.regex.Matcher;
import java.util.regex.Pattern;

/** Random runs of calls against a slow model that reckons every answer anew from the whole LOG. */
public final class ModelTest {
    private static final int RUNS = 4000;
    private static final int CALLS = 512;
    private static final long THROWS = Long.MIN_VALUE;

    private record Event(char kind, int n) { }

    private record Cut(int balls, int wickets, int ahead, int behind, int took) { }

    /** One innings, kept as lists. */
    private static final class Side {
        final List<Character> what = new ArrayList<>();
        final List<Cut> cuts = new ArrayList<>();
        int overs;
        int overs0;
        boolean closed;
        boolean ended;

        int balls() {
            return balls(what.size());
        }

        int balls(int till) {
            int sum = 0;
            for (char c : what.subList(0, till)) {
                sum += c == 'w' || c == 'n' ? 0 : 1;
            }
            return sum;
        }

        int runs(int from, int till) {
            int sum = 0;
            for (char c : what.subList(from, till)) {
                sum += c == 'x' ? 0 : c == 'w' || c == 'n' ? 1 : c - '0';
            }
            return sum;
        }

        int runs() {
            return runs(0, what.size());
        }

        int many(String kinds) {
            int sum = 0;
            for (char c : what) {
                sum += kinds.indexOf(c) >= 0 ? 1 : 0;
            }
            return sum;
        }

        int wickets() {
            return many("x");
        }

        int left() {
            return ended ? 0 : 6 * overs - balls();
        }

        int over(int k, int fact) {
            int sum = 0;
            for (int at = 0; at < what.size(); at++) {
                if (balls(at) / 6 == k) {
                    char c = what.get(at);
                    boolean ball = c != 'w' && c != 'n';
                    sum += fact == 0 ? runs(at, at + 1) : fact == 1 ? (c == 'x' ? 1 : 0) : ball ? 1 : 0;
                }
            }
            return sum;
        }

        List<Integer> falls() {
            List<Integer> at = new ArrayList<>();
            for (int k = 0; k < what.size(); k++) {
                if (what.get(k) == 'x') {
                    at.add(k);
                }
            }
            return at;
        }

        List<Integer> stands() {
            List<Integer> all = new ArrayList<>();
            int from = 0;
            for (int at : falls()) {
                all.add(runs(from, at));
                from = at;
            }
            if (all.size() < 10) {
                all.add(runs(from, what.size()));
            }
            return all;
        }

        int mostOver() {
            int most = 0;
            for (int k = 0; k < 20; k++) {
                most = Math.max(most, over(k, 0));
            }
            return most;
        }
    }

    /** The match behind some events. */
    private final class Stand {
        final Side[] sides = {new Side(), new Side()};
        int inPlay = 0;
        boolean dOpen = true;

        Stand(List<Event> events) {
            for (Side side : sides) {
                side.overs = set[0];
                side.overs0 = set[0];
            }
            for (Event event : events) {
                apply(event);
            }
        }

        Side now() {
            return sides[Math.min(inPlay, 1)];
        }

        int refuses(char kind, Integer n) {
            if (inPlay == 2 || kind == 'd' && !dOpen) {
                return 3;
            }
            if (n == null) {
                return 0;
            }
            boolean fits = kind == 'd' ? n >= 1 && n <= 20 && n < sides[1].overs
                : n >= 1 && n < now().overs && (long) 6 * n >= now().balls();
            return fits ? 0 : 2;
        }

        void apply(Event event) {
            Side side = now();
            if (event.kind == 'd') {
                sides[1].overs = event.n;
                sides[1].overs0 = event.n;
                return;
            }
            dOpen = dOpen && inPlay == 0;
            if (event.kind == '/') {
                side.closed = true;
            } else if (event.kind == 'c') {
                int w = side.wickets();
                int took = worthOf(side.left(), w) - worthOf(6 * event.n - side.balls(), w);
                side.cuts.add(new Cut(side.balls(), w, side.overs, event.n, took));
                side.overs = event.n;
            } else {
                side.what.add(event.kind);
            }
            boolean chased = inPlay == 1 && target() >= 0 && side.runs() >= target();
            if (side.closed || side.wickets() == 10 || side.balls() == 6 * side.overs || chased) {
                side.ended = true;
                inPlay++;
            }
        }

        int openPart(int i) {
            int part = worthOf(6 * sides[i].overs0, 0);
            for (Cut cut : sides[i].cuts) {
                part -= cut.took;
            }
            return part;
        }

        int lostByClose(int i) {
            Side side = sides[i];
            return side.closed ? worthOf(6 * side.overs - side.balls(), side.wickets()) : 0;
        }

        int part(int i) {
            return openPart(i) - lostByClose(i);
        }

        int by(int s, int q) {
            int p = part(0);
            if (inPlay == 0 || p == 0) {
                return -1;
            }
            return q < p ? s * q / p + 1 : s + set[1] * (q - p) / worthOf(120, 0) + 1;
        }

        int target() {
            return by(sides[0].runs(), openPart(1));
        }

        int parAhead() {
            Side side = sides[1];
            int left = worthOf(6 * side.overs - side.balls(), side.wickets());
            return by(sides[0].runs(), openPart(1) - left) - 1;
        }

        int par() {
            return inPlay == 1 && target() >= 0 ? parAhead() : -1;
        }

        int tie(boolean closed) {
            return closed ? parAhead() : target() - 1;
        }

        int outcome(boolean closed) {
            Side side = sides[1];
            if (part(0) == 0 || closed && side.balls() < 6 * set[2]) {
                return 0;
            }
            int cmp = Integer.compare(side.runs(), tie(closed));
            return cmp < 0 ? 1 : cmp > 0 ? 2 : 3;
        }

        int margin() {
            Side side = sides[1];
            int lead = side.runs() - tie(side.closed);
            int result = outcome(side.closed);
            if (result == 2 && side.runs() >= target()) {
                return 10 - side.wickets();
            }
            return result == 1 || result == 2 ? Math.abs(lead) : 0;
        }

        int[] blocks(int i) {
            int n = sides[i].overs;
            int[] told = {set[3], set[4], 20 - set[3] - set[4]};
            int[] got = new int[3];
            int[] rest = new int[3];
            int spare = n;
            for (int k = 0; k < 3; k++) {
                got[k] = n * told[k] / 20;
                rest[k] = n * told[k] - 20 * got[k];
                spare -= got[k];
            }
            for (; spare > 0; spare--) {
                int best = rest[1] > rest[0] ? 1 : 0;
                best = rest[2] > rest[best] ? 2 : best;
                got[best]++;
                rest[best] = -1;
            }
            return got;
        }

        int inBlock(int i, int k, int fact) {
            int[] got = blocks(i);
            int from = k == 0 ? 0 : k == 1 ? got[0] : got[0] + got[1];
            int sum = 0;
            for (int at = from; at < from + got[k]; at++) {
                sum += sides[i].over(at, fact);
            }
            return sum;
        }

        int lead(int rule) {
            Side a = sides[0];
            Side b = sides[1];
            return switch (rule) {
                case 0 -> b.wickets() - a.wickets();
                case 1 -> inBlock(0, 0, 0) - inBlock(1, 0, 0);
                case 2 -> a.many("46") - b.many("46");
                default -> a.mostOver() - b.mostOver();
            };
        }
    }

    private final Random random;
    private final CutMatch real = new CutMatch();
    private final List<String> trace = new ArrayList<>();
    private final int[][] told = new int[10][5];
    private final int[] set = {20, 150, 5, 6, 9};
    private final List<Event> log = new ArrayList<>();
    private String tape = "";
    private int fault = 0;
    private Stand stand;

    private ModelTest(long seed) {
        random = new Random(seed);
        for (int w = 0; w < 10; w++) {
            for (int k = 0; k < 5; k++) {
                told[w][k] = 25 * k * (10 - w);
            }
        }
        stand = new Stand(log);
    }

    private int worthOf(int balls, int w) {
        if (w == 10) {
            return 0;
        }
        int k = balls / 30;
        int r = balls - 30 * k;
        return 30 * told[w][k] + (r == 0 ? 0 : r * (told[w][k + 1] - told[w][k]));
    }

    private void due(String call, long got, long want) {
        trace.add(call + " = " + got);
        if (got != want) {
            throw new IllegalStateException("due is " + want);
        }
    }

    private void emptyLog() {
        log.clear();
        stand = new Stand(log);
    }

    // ---- texts

    private void feedText(String text) {
        int[] words = Run.words(text);
        String padded = text + "~".repeat(4 * words.length - text.length());
        boolean all = true;
        for (int k = 0; k < words.length; k += 5) {
            boolean room = tape.length() + 20 <= 500;
            tape = room ? tape + padded.substring(4 * k, 4 * k + 20) : tape;
            all &= room;
            due("feed", real.feed(words[k], words[k + 1], words[k + 2], words[k + 3], words[k + 4]),
                room ? tape.length() : -1);
        }
        int n = all ? tape.length() - (padded.length() - text.length()) : random.nextInt(600) - 20;
        boolean fits = n >= 0 && n <= tape.length();
        tape = fits ? tape.substring(0, n) : tape;
        due("end " + n, real.end(n) ? 1 : 0, fits ? 1 : 0);
    }

    private void table() {
        int[][] next = new int[10][];
        for (int w = 0; w < 10; w++) {
            next[w] = told[w].clone();
        }
        int rows = 0;
        int found = 0;
        Matcher m = Pattern.compile("[a-z]+|[0-9]+|[^ \n]", Pattern.DOTALL).matcher(tape);
        int slot = 0;
        int w = 0;
        while (found == 0) {
            boolean more = m.find();
            int place = more ? m.start() : tape.length();
            String token = more ? m.group() : "";
            if (slot == 0 && !more) {
                break;
            }
            boolean stands = slot == 0 ? token.equals("row") : slot == 6 ? token.equals(";")
                : token.matches("[0-9]+");
            if (!stands) {
                found = 1 + 8 * place;
            } else if (slot >= 1 && slot <= 5) {
                int v = token.length() > 4 ? -1 : Integer.parseInt(token);
                if (slot == 1 ? v < 0 || v > 9 : v < 1 || v > 1000) {
                    found = 2 + 8 * place;
                } else if (slot == 1) {
                    w = v;
                } else {
                    next[w][slot - 1] = v;
                }
            }
            rows += slot == 6 ? 1 : 0;
            slot = (slot + 1) % 7;
        }
        for (int row = 0; row < 10 && found == 0; row++) {
            for (int k = 1; k < 5; k++) {
                boolean falls = next[row][k] < next[row][k - 1];
                boolean above = row > 0 && next[row][k] > next[row - 1][k];
                found = falls || above ? 4 + 8 * tape.length() : found;
            }
        }
        trace.add("tape: " + tape);
        tape = "";
        fault = found;
        if (found == 0) {
            for (int row = 0; row < 10; row++) {
                told[row] = next[row];
            }
            emptyLog();
        }
        due("table", real.table(), found == 0 ? rows : -1);
        due("fault", real.fault(), fault);
    }

    private void events() {
        List<Event> next = new ArrayList<>(log);
        Stand s = new Stand(log);
        int found = 0;
        int at = 0;
        while (found == 0) {
            at = skip(at);
            if (at >= tape.length()) {
                break;
            }
            char kind = tape.charAt(at);
            int n = 0;
            if ("0123456xwncd/".indexOf(kind) < 0) {
                found = 1 + 8 * at;
            } else if (next.size() >= 400 || s.refuses(kind, null) != 0) {
                found = 3 + 8 * at;
            } else if (kind == 'c' || kind == 'd') {
                int from = skip(at + 1);
                at = from;
                while (at < tape.length() && Character.isDigit(tape.charAt(at))) {
                    at++;
                }
                String digits = tape.substring(from, at);
                n = digits.isEmpty() || digits.length() > 4 ? -1 : Integer.parseInt(digits);
                found = digits.isEmpty() ? 1 + 8 * from : s.refuses(kind, n) != 0 ? 2 + 8 * from : 0;
            } else {
                at++;
            }
            if (found == 0) {
                next.add(new Event(kind, n));
                s.apply(new Event(kind, n));
            }
        }
        trace.add("tape: " + tape);
        tape = "";
        fault = found;
        int came = found == 0 ? next.size() - log.size() : -1;
        if (found == 0) {
            log.clear();
            log.addAll(next);
            stand = s;
        }
        due("events", real.events(), came);
        due("fault", real.fault(), fault);
    }

    private int skip(int from) {
        int at = from;
        while (at < tape.length() && (tape.charAt(at) == 32 || tape.charAt(at) == 10)) {
            at++;
        }
        return at;
    }

    // ---- the other calls that change

    private void setting(int s, int v) {
        boolean can = s >= 0 && s < 5 && set[s] != v;
        if (can) {
            int[] next = set.clone();
            next[s] = v;
            int[] least = {1, 1, 1, 0, 0};
            int[] most = {20, 400, 20, 20, 20};
            can = v >= least[s] && v <= most[s] && next[3] + next[4] <= 20;
        }
        if (can) {
            set[s] = v;
            emptyLog();
        }
        due("set " + s + " " + v, real.set(s, v) ? 1 : 0, can ? 1 : 0);
    }

    private void play(int event, int n) {
        boolean bears = event == 'c' || event == 'd';
        boolean can = event > 0 && event < 256 && "0123456xwncd/".indexOf(event) >= 0
            && log.size() < 400 && stand.refuses((char) event, bears ? n : null) == 0;
        if (can) {
            log.add(new Event((char) event, n));
            stand = new Stand(log);
        }
        due("play " + event + " " + n, real.play(event, n), can ? log.size() : -1);
    }

    private void back() {
        int want = log.size() - 1;
        if (want >= 0) {
            log.remove(want);
            stand = new Stand(log);
        }
        due("back", real.back(), want);
    }

    private void clear() {
        int had = log.size();
        emptyLog();
        due("clear", real.clear(), had);
    }

    // ---- questions

    private long thrown(int kind, int i, int k, int what) {
        try {
            return kind == 0 ? real.innings(i, what) : real.cut(i, k, what);
        } catch (NoSuchElementException e) {
            return THROWS;
        }
    }

    private long inningsDue(int i, int what) {
        if (i < 0 || i > 1 || what < 0 || what > 8) {
            return THROWS;
        }
        Side s = stand.sides[i];
        int[] all = {s.runs(), s.wickets(), s.balls(), s.overs, stand.part(i), s.cuts.size(),
            s.closed ? 1 : 0, s.many("wn"), s.left()};
        return all[what];
    }

    private long cutDue(int i, int k, int what) {
        if (i < 0 || i > 1 || what < 0 || what > 4 || k < 0 || k >= stand.sides[i].cuts.size()) {
            return THROWS;
        }
        Cut c = stand.sides[i].cuts.get(k);
        return new int[] {c.balls, c.wickets, c.ahead, c.behind, c.took}[what];
    }

    private int fallDue(int i, int k, int what) {
        if (i < 0 || i > 1 || what < 0 || what > 2 || k < 0 || k >= stand.sides[i].wickets()) {
            return -1;
        }
        Side s = stand.sides[i];
        int at = s.falls().get(k);
        return what == 0 ? s.runs(0, at) : what == 1 ? s.balls(at + 1) : s.stands().get(k);
    }

    private int bestOverDue(int i) {
        Side s = stand.sides[i];
        if (s.what.isEmpty()) {
            return -1;
        }
        for (int k = 0; k < 20; k++) {
            if (s.over(k, 0) == s.mostOver()) {
                return k;
            }
        }
        return -1;
    }

    private static int least(int upper, int lower, boolean under) {
        for (int d = Math.max(upper, lower); d > 1; d--) {
            if (upper % d == 0 && lower % d == 0) {
                return (under ? lower : upper) / d;
            }
        }
        return under ? lower : upper;
    }

    private int countDue(int what) {
        int[] first = {log.size(), stand.inPlay, tape.length(), worthOf(120, 0)};
        return what >= 0 && what < 4 ? first[what] : what >= 10 && what < 15 ? set[what - 10] : -1;
    }

    private int blockNowDue() {
        if (stand.inPlay == 2) {
            return -1;
        }
        int[] got = stand.blocks(stand.inPlay);
        int k = stand.now().balls() / 6;
        return k < got[0] ? 0 : k < got[0] + got[1] ? 1 : 2;
    }

    private int projectedDue() {
        Side s = stand.sides[0];
        int used = stand.part(0) - worthOf(s.left(), s.wickets());
        return stand.inPlay != 0 || used == 0 ? -1 : s.runs() * stand.part(0) / used;
    }

    private int needsDue(int what) {
        if (stand.inPlay != 1 || stand.target() < 0 || what < 0 || what > 3) {
            return -1;
        }
        int runs = stand.target() - stand.sides[1].runs();
        int left = stand.sides[1].left();
        return what == 0 ? runs : what == 1 ? left : least(6 * runs, left, what == 3);
    }

    private int ifCutDue(int n) {
        if (stand.inPlay != 1 || stand.target() < 0 || stand.refuses('c', n) != 0 || log.size() == 400) {
            return -1;
        }
        List<Event> more = new ArrayList<>(log);
        more.add(new Event('c', n));
        return new Stand(more).target();
    }

    private int ifClosedDue() {
        if (stand.inPlay != 1) {
            return -1;
        }
        List<Event> more = new ArrayList<>(log);
        more.add(new Event('/', 0));
        return new Stand(more).outcome(true);
    }

    private int leastCutDue(int v) {
        for (int n = 1; n <= 20; n++) {
            int t = ifCutDue(n);
            if (t >= 0 && (long) t - stand.sides[1].runs() >= v) {
                return n;
            }
        }
        return -1;
    }

    private int afterDue(int k, int what) {
        if (k < 0 || k > log.size() || what < 0 || what > 5) {
            return -2;
        }
        Stand s = new Stand(log.subList(0, k));
        Side side = s.now();
        return new int[] {s.inPlay, side.runs(), side.wickets(), side.balls(), s.target(), s.par()}[what];
    }

    private int firstAheadDue() {
        Stand s = new Stand(List.of());
        for (int k = 0; k < log.size(); k++) {
            s.apply(log.get(k));
            if (s.inPlay == 1 && s.target() >= 0 && s.sides[1].runs() > s.par()) {
                return k + 1;
            }
        }
        return -1;
    }

    private int brokenDue(int rule) {
        boolean tie = stand.inPlay == 2 && stand.outcome(stand.sides[1].closed) == 3;
        if (!tie || rule < 0 || rule > 3) {
            return -1;
        }
        int lead = stand.lead(rule);
        return lead > 0 ? 1 : lead < 0 ? 2 : 0;
    }

    private int number(int most) {
        int at = random.nextInt(60);
        if (at == 0) {
            return new int[] {Integer.MIN_VALUE, Integer.MAX_VALUE, -7, 1 << 30}[random.nextInt(4)];
        }
        return random.nextInt(most + 2) - (random.nextInt(8) == 0 ? 1 : 0);
    }

    private void ask(int which) {
        int i = random.nextInt(30) == 0 ? number(2) : random.nextInt(2);
        boolean is = i == 0 || i == 1;
        Side side = stand.sides[is ? i : 0];
        int over = random.nextBoolean() ? number(20) : number(3);
        int fact = number(2);
        boolean facts = fact >= 0 && fact < 3;
        String at = " " + i + " " + over + " " + fact;
        boolean ended = stand.inPlay == 2;
        switch (which) {
            case 0 -> {
                int what = number(15);
                due("count " + what, real.count(what), countDue(what));
            }
            case 1 -> {
                int w = number(10);
                int b = number(121);
                boolean fits = b >= 0 && b <= 120 && w >= 0 && w <= 10;
                due("worth " + b + " " + w, real.worth(b, w), fits ? worthOf(b, w) : -1);
            }
            case 2 -> {
                int w = number(10);
                int k = number(4);
                boolean fits = k >= 1 && k <= 4 && w >= 0 && w <= 9;
                due("told " + w + " " + k, real.told(w, k), fits ? told[w][k] : -1);
            }
            case 3, 4, 5 -> {
                int what = number(8);
                due("innings " + i + " " + what, thrown(0, i, 0, what), inningsDue(i, what));
            }
            case 6 -> {
                int k = number(2);
                int what = number(4);
                due("cut " + i + " " + k + " " + what, thrown(1, i, k, what), cutDue(i, k, what));
            }
            case 7 -> {
                boolean fits = is && over >= 0 && over < 20 && facts;
                due("over" + at, real.over(i, over, fact), fits ? side.over(over, fact) : -1);
            }
            case 8 -> {
                int k = number(2);
                boolean fits = is && k >= 0 && k < 3;
                due("block " + i + " " + k, real.block(i, k), fits ? stand.blocks(i)[k] : -1);
            }
            case 9 -> due("blockNow", real.blockNow(), blockNowDue());
            case 10 -> {
                int k = number(2);
                boolean fits = is && k >= 0 && k < 3 && facts;
                due("inBlock " + i + " " + k + " " + fact, real.inBlock(i, k, fact),
                    fits ? stand.inBlock(i, k, fact) : -1);
            }
            case 11 -> {
                int k = number(4);
                due("fall " + i + " " + k + " " + fact, real.fall(i, k, fact), fallDue(i, k, fact));
            }
            case 12 -> {
                List<Integer> all = side.stands();
                boolean fits = is && side.wickets() < 10;
                due("lastStand " + i, real.lastStand(i), fits ? all.get(all.size() - 1) : -1);
                int best = 0;
                for (int one : all) {
                    best = Math.max(best, one);
                }
                due("bestStand " + i, real.bestStand(i), is ? best : -1);
            }
            case 13 -> {
                int r = number(7);
                boolean fits = is && r >= 0 && r <= 6;
                int want = fits ? side.many(r == 0 ? "0x" : String.valueOf(r)) : -1;
                due("made " + i + " " + r, real.made(i, r), want);
            }
            case 14 -> due("bestOver " + i, real.bestOver(i), is ? bestOverDue(i) : -1);
            case 15 -> {
                boolean under = random.nextBoolean();
                int want = is && side.balls() > 0 ? least(6 * side.runs(), side.balls(), under) : -1;
                due("rate " + i + " " + under, real.rate(i, under), want);
            }
            case 16 -> due("projected", real.projected(), projectedDue());
            case 17 -> due("target", real.target(), stand.target());
            case 18 -> due("par", real.par(), stand.par());
            case 19 -> {
                boolean closed = stand.sides[1].closed;
                due("result", real.result(), ended ? stand.outcome(closed) : -1);
                due("margin", real.margin(), ended ? stand.margin() : -1);
            }
            case 20 -> {
                int what = number(4);
                due("needs " + what, real.needs(what), needsDue(what));
            }
            case 21 -> {
                int rule = number(3);
                due("broken " + rule, real.broken(rule), brokenDue(rule));
            }
            case 22 -> {
                int n = number(20);
                due("ifCut " + n, real.ifCut(n), ifCutDue(n));
            }
            case 23 -> due("ifClosed", real.ifClosed(), ifClosedDue());
            case 24 -> {
                int r = number(1000);
                boolean fits = r >= 0 && r <= 999;
                due("ifRuns " + r, real.ifRuns(r), fits ? stand.by(r, stand.openPart(1)) : -1);
            }
            case 25 -> {
                int v = number(40);
                due("leastCut " + v, real.leastCut(v), leastCutDue(v));
            }
            case 26 -> {
                int k = random.nextInt(10) == 0 ? number(400) : random.nextInt(log.size() + 2);
                int what = number(5);
                due("after " + k + " " + what, real.after(k, what), afterDue(k, what));
            }
            default -> due("firstAhead", real.firstAhead(), firstAheadDue());
        }
    }

    // ---- what a run does

    private String oneEvent() {
        int at = random.nextInt(100);
        String blank = random.nextInt(4) == 0 ? random.nextBoolean() ? " " : "\n" : "";
        if (at < 70) {
            return blank + "00011123446".charAt(random.nextInt(11));
        }
        if (at < 82) {
            return blank + 'x';
        }
        if (at < 90) {
            return blank + (random.nextBoolean() ? 'w' : 'n');
        }
        if (at < 97) {
            String n = String.valueOf(Math.max(1, set[0] - random.nextInt(4)));
            return blank + (random.nextBoolean() ? "c" : "d") + blank + n + " ";
        }
        return random.nextInt(3) == 0 ? "/" : random.nextInt(40) == 0 ? "7" : "0";
    }

    private String eventText() {
        StringBuilder text = new StringBuilder();
        int many = random.nextInt(10) == 0 ? random.nextInt(450) : random.nextInt(25);
        boolean wides = random.nextInt(40) == 0;
        Stand s = new Stand(log);
        int size = log.size();
        for (int k = 0; k < many; k++) {
            String one = wides && random.nextInt(20) > 0 ? "w" : oneEvent();
            Event event = read(one);
            // Most texts are without a fault, or hardly a match would get on.
            boolean can = event != null && size < 400
                && s.refuses(event.kind, "cd".indexOf(event.kind) >= 0 ? event.n : null) == 0;
            if (can || random.nextInt(60) == 0) {
                text.append(one);
            }
            if (can) {
                s.apply(event);
                size++;
            }
        }
        return spoiled(text.length() > 480 ? text.substring(0, 480) : text.toString());
    }

    private static Event read(String one) {
        String bare = one.replaceAll("[ \n]", "");
        char kind = bare.charAt(0);
        if ("0123456xwncd/".indexOf(kind) < 0) {
            return null;
        }
        return new Event(kind, bare.length() > 1 ? Integer.parseInt(bare.substring(1)) : 0);
    }

    private String spoiled(String text) {
        if (random.nextInt(8) != 0 || text.isEmpty()) {
            return text;
        }
        int at = random.nextInt(text.length());
        String odd = "0123456789 xwncd/;row\n\t" + (char) 233 + (char) 0;
        char c = odd.charAt(random.nextInt(odd.length()));
        return text.substring(0, at) + c + text.substring(at + random.nextInt(2));
    }

    private String tableText() {
        StringBuilder text = new StringBuilder();
        int rows = random.nextInt(5);
        int top = 1000;
        boolean all = random.nextInt(3) == 0;
        for (int row = 0; row < (all ? 10 : rows); row++) {
            int w = all ? row : random.nextInt(10);
            int[] four = new int[4];
            for (int k = 0; k < 4; k++) {
                int near = told[w][k + 1] + random.nextInt(7) - 3;
                four[k] = all ? top * (k + 1) / 4 - random.nextInt(5) : near;
                four[k] = Math.max(1, Math.min(1000, four[k]));
            }
            top -= 20 + random.nextInt(70);
            text.append(random.nextInt(3) == 0 ? " row" : "row ").append(w);
            for (int one : four) {
                text.append(' ').append(random.nextInt(9) == 0 ? "0" : "").append(one);
            }
            text.append(random.nextBoolean() ? ";" : " ;\n");
        }
        return spoiled(text.toString());
    }

    private void change() {
        int at = random.nextInt(100);
        if (at < 40) {
            if (tape.isEmpty() || random.nextInt(4) != 0) {
                feedText(eventText());
            }
            events();
        } else if (at < 75) {
            String one = oneEvent();
            Event event = read(one);
            boolean odd = event == null || random.nextInt(30) == 0;
            play(odd ? number(300) : event.kind, odd || event.n == 0 ? number(20) : event.n);
        } else if (at < 85) {
            back();
        } else if (at < 87) {
            feedText(tableText());
            table();
        } else if (at < 90) {
            int s = number(4);
            setting(s, s == 1 ? number(400) : s == 0 ? number(4) : number(20));
        } else if (at < 91) {
            clear();
        } else if (at < 93) {
            feedText(eventText());
        } else if (at < 94) {
            feedText(spoiled(tableText()));
            table();
        } else if (at < 95) {
            table();
        }
    }

    private void run() {
        if (random.nextInt(5) != 0) {
            setting(0, 1 + random.nextInt(random.nextBoolean() ? 3 : 19));
        }
        if (random.nextBoolean()) {
            setting(2, 1 + random.nextInt(2));
        }
        while (trace.size() < CALLS - 40) {
            change();
            for (int k = random.nextInt(12); k > 0; k--) {
                ask(random.nextInt(28));
            }
        }
    }

    public static void main(String[] args) {
        int[] seen = new int[4];
        int ties = 0;
        for (int seed = 0; seed < RUNS; seed++) {
            ModelTest test = new ModelTest(seed);
            try {
                test.run();
            } catch (RuntimeException e) {
                for (String line : test.trace) {
                    System.out.println(line);
                }
                System.out.println("run " + seed + ": " + e);
                e.printStackTrace(System.out);
                System.exit(1);
            }
            for (String line : test.trace) {
                if (line.startsWith("result = ") && !line.endsWith("-1")) {
                    seen[line.charAt(9) - '0']++;
                }
                if (line.startsWith("broken") && !line.endsWith("-1")) {
                    ties++;
                }
            }
        }
        System.out.println(RUNS + " runs as the model says; RESULTS seen " + Arrays.toString(seen)
            + ", ties broken " + ties);
        for (int one : seen) {
            if (one == 0 || ties == 0) {
                System.out.println("the runs do not reach every RESULT");
                System.exit(1);
            }
        }
    }
}
