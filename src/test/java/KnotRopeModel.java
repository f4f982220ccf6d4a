import java.util.ArrayDeque;
import java.util.ArrayList;
import java.util.Arrays;
import java.util.Collections;
import java.util.List;
import java.util.Map;
import java.util.Random;
import java.util.TreeMap;
import java.util.TreeSet;

/**
 * Drawn runs of calls, each answered by KnotRope and by a second, slow model written from the document:
 * it lists all readings' sums, all texts, all orders, all ways and all partings where the class reckons.
 */
public final class KnotRopeModel {

    /** A list of numbers by its place in the order of rows. */
    static int compareRows(List<Integer> a, List<Integer> b) {
        for (int i = 0; i < a.size() && i < b.size(); i++) {
            int c = Integer.compare(a.get(i), b.get(i));
            if (c != 0) return c;
        }
        return Integer.compare(a.size(), b.size());
    }

    static final class Word {
        List<Integer> knots = new ArrayList<>();
        int means;
    }

    static final class Line {
        int first, second, bears, crossed;
        List<Integer> knots = new ArrayList<>();

        Line copy() {
            Line l = new Line();
            l.first = first;
            l.second = second;
            l.bears = bears;
            l.crossed = crossed;
            l.knots = new ArrayList<>(knots);
            return l;
        }
    }

    static final class Walker {
        int weighs, pace, place;

        Walker copy() {
            Walker w = new Walker();
            w.weighs = weighs;
            w.pace = pace;
            w.place = place;
            return w;
        }
    }

    /** All that may change by an act; each act keeps the one ahead of it. */
    static final class State {
        List<Line> ropes = new ArrayList<>();
        List<Walker> persons = new ArrayList<>();
        int wet;

        State copy() {
            State s = new State();
            for (Line l : ropes) s.ropes.add(l.copy());
            for (Walker w : persons) s.persons.add(w.copy());
            s.wet = wet;
            return s;
        }
    }

    static final class Land {
        int lines, places, wear, odds;
        List<int[]> kinds = new ArrayList<>();
        List<Word> words = new ArrayList<>();
        State now = new State();
        List<State> before = new ArrayList<>();

        Land copy() {
            Land l = new Land();
            l.lines = lines;
            l.places = places;
            l.wear = wear;
            l.odds = odds;
            l.kinds = new ArrayList<>(kinds);
            l.words = new ArrayList<>(words);
            l.now = now.copy();
            for (State s : before) l.before.add(s.copy());
            return l;
        }
    }

    static final class Fault extends RuntimeException {
        final int code, place;

        Fault(int code, int place) {
            this.code = code;
            this.place = place;
        }
    }

    /** Tokens first, all of them; then each line against its pattern. */
    static final class Telling {
        final List<String> tokens = new ArrayList<>();
        final List<Integer> places = new ArrayList<>();
        int at = 0;
        final Land land = new Land();

        Telling(byte[] tape, int size) {
            StringBuilder sb = new StringBuilder();
            for (int i = 0; i < size; i++) sb.append((char) (tape[i] & 255));
            java.util.regex.Matcher m = java.util.regex.Pattern.compile("[a-z]+|[0-9]+|;|[^ \n]", java.util.regex.Pattern.DOTALL).matcher(sb);
            while (m.find()) {
                tokens.add(m.group());
                places.add(m.start());
            }
            tokens.add("");
            places.add(size);
        }

        boolean isNumber() {
            return tokens.get(at).matches("[0-9]+");
        }

        RuntimeException bad(int code) {
            return new Fault(code, places.get(at));
        }

        void say(String w) {
            if (!tokens.get(at).equals(w)) throw bad(1);
            at++;
        }

        boolean within(int low, int high) {
            java.math.BigInteger v = new java.math.BigInteger(tokens.get(at));
            return v.compareTo(java.math.BigInteger.valueOf(low)) >= 0 && v.compareTo(java.math.BigInteger.valueOf(high)) <= 0;
        }

        int num(int low, int high) {
            if (!isNumber()) throw bad(1);
            if (!within(low, high)) throw bad(2);
            return Integer.parseInt(tokens.get(at++).replaceFirst("^0+(?=.)", ""));
        }

        List<Integer> knots(int most) {
            List<Integer> out = new ArrayList<>();
            do {
                if (isNumber() && out.size() == most && within(0, land.kinds.size() - 1)) throw bad(3);
                out.add(num(0, land.kinds.size() - 1));
            } while (isNumber());
            return out;
        }

        Land all() {
            while (!tokens.get(at).isEmpty()) {
                String w = tokens.get(at);
                if (w.equals("gorge") != (land.lines == 0)) throw bad(1);
                switch (w) {
                    case "gorge": {
                        at++;
                        say("places");
                        land.places = num(2, 6);
                        say("wear");
                        land.wear = num(0, 99);
                        say("odds");
                        land.odds = num(0, 100);
                        break;
                    }
                    case "knot": {
                        if (land.kinds.size() == 6) throw bad(3);
                        at++;
                        say("inches");
                        int in = num(1, 9);
                        say("weak");
                        land.kinds.add(new int[] {in, num(0, 50)});
                        break;
                    }
                    case "word": {
                        if (land.words.size() == 10) throw bad(3);
                        at++;
                        Word word = new Word();
                        word.knots = knots(4);
                        for (Word o : land.words) {
                            if (o.knots.equals(word.knots) && tokens.get(at).equals("means")) throw bad(2);
                        }
                        say("means");
                        word.means = num(0, 99);
                        land.words.add(word);
                        break;
                    }
                    case "rope": {
                        if (land.now.ropes.size() == 6) throw bad(3);
                        at++;
                        Line l = new Line();
                        l.first = num(0, land.places - 1);
                        say("to");
                        int here = at;
                        l.second = num(0, land.places - 1);
                        if (l.second == l.first) throw new Fault(2, places.get(here));
                        say("bears");
                        l.bears = num(1, 999);
                        say("of");
                        l.knots = knots(12);
                        land.now.ropes.add(l);
                        break;
                    }
                    case "person": {
                        if (land.now.persons.size() == 6) throw bad(3);
                        at++;
                        Walker p = new Walker();
                        say("weighs");
                        p.weighs = num(1, 999);
                        say("pace");
                        p.pace = num(1, 9);
                        say("at");
                        p.place = num(0, land.places - 1);
                        land.now.persons.add(p);
                        break;
                    }
                    default:
                        throw bad(1);
                }
                say(";");
                land.lines++;
            }
            return land;
        }
    }

    static final class Model {
        byte[] tape = new byte[1400];
        int size;
        int fault, place = -1;
        Land land = new Land();
        Land[] images = new Land[3];
        long[][] rows = new long[4][];
        int[] widths = new int[4];

        boolean isRope(int r) {
            return r >= 0 && r < land.now.ropes.size();
        }

        boolean isPerson(int p) {
            return p >= 0 && p < land.now.persons.size();
        }

        List<Integer> knotsOf(int r) {
            return land.now.ropes.get(r).knots;
        }

        int feed(int... f) {
            if (size + 20 > 1400) return -1;
            java.nio.ByteBuffer b = java.nio.ByteBuffer.allocate(20);
            for (int i : f) b.putInt(i);
            System.arraycopy(b.array(), 0, tape, size, 20);
            return size += 20;
        }

        int end(int n) {
            return n < 0 || n > size ? -1 : (size = n);
        }

        int gorge() {
            Telling t = new Telling(tape, size);
            size = 0;
            try {
                land = t.all();
                fault = 0;
                place = -1;
                return land.lines;
            } catch (Fault f) {
                fault = f.code;
                place = f.place;
                return -4;
            }
        }

        int fault(int what) {
            return what == 0 ? fault : what == 1 ? place : -1;
        }

        int knot(int k, int what) {
            return k < 0 || k >= land.kinds.size() || what < 0 || what > 1 ? -2 : land.kinds.get(k)[what];
        }

        int word(int w, int i) {
            if (w < 0 || w >= land.words.size()) return -2;
            List<Integer> k = land.words.get(w).knots;
            return i < 0 || i >= k.size() ? -1 : k.get(i);
        }

        int means(int w) {
            return w < 0 || w >= land.words.size() ? -2 : land.words.get(w).means;
        }

        int inches(List<Integer> text) {
            int in = 0;
            for (int k : text) in += land.kinds.get(k)[0];
            return in + Math.max(0, text.size() - 1);
        }

        int inchesOf(int r) {
            int in = inches(knotsOf(r));
            return land.now.wet == 1 ? in - in / 10 : in;
        }

        int strength(int r) {
            Line l = land.now.ropes.get(r);
            int w = 0;
            for (int k : l.knots) w = Math.max(w, land.kinds.get(k)[1]);
            return (int) Math.floor(l.bears * (100 - w) / 100.0 + 1e-9) - land.wear * l.crossed;
        }

        int rope(int r, int what) {
            if (!isRope(r) || what < 0 || what > 6) return -1000;
            Line l = land.now.ropes.get(r);
            return new int[] {l.first, l.second, l.bears, l.knots.size(), inchesOf(r), strength(r), l.crossed}[what];
        }

        int at(int r, int i) {
            if (!isRope(r)) return -2;
            return i < 0 || i >= knotsOf(r).size() ? -1 : knotsOf(r).get(i);
        }

        int person(int p, int what) {
            if (!isPerson(p) || what < 0 || what > 2) return -2;
            Walker w = land.now.persons.get(p);
            return new int[] {w.weighs, w.pace, w.place}[what];
        }

        // readings: of each prefix how many, their sums, the least row
        static final class Read {
            long ways;
            TreeSet<Integer> sums = new TreeSet<>();
            List<Integer> first;
        }

        Read read(List<Integer> text) {
            Read[] upTo = new Read[text.size() + 1];
            upTo[0] = new Read();
            upTo[0].ways = 1;
            upTo[0].sums.add(0);
            upTo[0].first = new ArrayList<>();
            for (int n = 1; n <= text.size(); n++) {
                Read r = upTo[n] = new Read();
                for (int w = 0; w < land.words.size(); w++) {
                    Word word = land.words.get(w);
                    int s = n - word.knots.size();
                    if (s < 0 || upTo[s].ways == 0 || !text.subList(s, n).equals(word.knots)) continue;
                    r.ways += upTo[s].ways;
                    for (int sum : upTo[s].sums) r.sums.add(sum + word.means);
                    List<Integer> row = new ArrayList<>(upTo[s].first);
                    row.add(w);
                    if (r.first == null || compareRows(row, r.first) < 0) r.first = row;
                }
            }
            return upTo[text.size()];
        }

        Read readRope(int r, int back) {
            List<Integer> text = new ArrayList<>(knotsOf(r));
            if (back == 1) Collections.reverse(text);
            return read(text);
        }

        boolean noReading(int r, int back) {
            return !isRope(r) || back < 0 || back > 1;
        }

        int reads(int r, int back) {
            return noReading(r, back) ? -2 : (int) readRope(r, back).ways;
        }

        int says(int r, int back, int i) {
            if (noReading(r, back)) return -2;
            List<Integer> f = readRope(r, back).first;
            return f == null || i < 0 || i >= f.size() ? -1 : f.get(i);
        }

        int sum(int r, int back, int what) {
            if (noReading(r, back) || what < 0 || what > 1) return -2;
            TreeSet<Integer> s = readRope(r, back).sums;
            return s.isEmpty() ? -1 : what == 0 ? s.first() : s.last();
        }

        int has(int r, int back, int sum) {
            if (noReading(r, back) || sum < 0 || sum > 2400) return -2;
            return readRope(r, back).sums.contains(sum) ? 1 : 0;
        }

        List<Integer> shortestRow(int sum, int weak) {
            List<List<Integer>> rows = new ArrayList<>();
            int[] cost = new int[sum + 1];
            rows.add(new ArrayList<>());
            for (int s = 1; s <= sum; s++) {
                List<Integer> best = null;
                for (int w = 0; w < land.words.size(); w++) {
                    Word word = land.words.get(w);
                    boolean ok = word.means > 0 && word.means <= s && rows.get(s - word.means) != null;
                    for (int k : word.knots) ok &= land.kinds.get(k)[1] <= weak;
                    if (!ok) continue;
                    List<Integer> row = new ArrayList<>();
                    row.add(w);
                    row.addAll(rows.get(s - word.means));
                    int c = inches(spell(row));
                    int d = best == null ? -1 : Integer.compare(c, cost[s]);
                    if (d < 0 || d == 0 && compareRows(row, best) < 0) {
                        best = row;
                        cost[s] = c;
                    }
                }
                rows.add(best);
            }
            return rows.get(sum);
        }

        List<Integer> spell(List<Integer> row) {
            List<Integer> text = new ArrayList<>();
            for (int w : row) text.addAll(land.words.get(w).knots);
            return text;
        }

        boolean noWriting(int sum, int weak) {
            return land.lines == 0 || sum < 1 || sum > 500 || weak < 0 || weak > 50;
        }

        int shortest(int sum, int weak) {
            if (noWriting(sum, weak)) return -2;
            List<Integer> row = shortestRow(sum, weak);
            return row == null ? -1 : inches(spell(row));
        }

        int writes(int sum, int weak, int i) {
            if (noWriting(sum, weak)) return -2;
            List<Integer> row = shortestRow(sum, weak);
            return row == null || i < 0 || i >= row.size() ? -1 : row.get(i);
        }

        /** All slipped texts: place, kind, the text. */
        List<int[]> slipped(int r) {
            List<int[]> out = new ArrayList<>();
            List<Integer> text = knotsOf(r);
            for (int p = 0; p < text.size(); p++) {
                for (int k = 0; k < land.kinds.size(); k++) {
                    if (k == text.get(p)) continue;
                    List<Integer> other = new ArrayList<>(text);
                    other.set(p, k);
                    Read read = read(other);
                    if (read.ways > 0) out.add(new int[] {p, k, read.sums.first()});
                }
            }
            return out;
        }

        int slips(int r) {
            return isRope(r) ? slipped(r).size() : -2;
        }

        int spots(int r) {
            if (!isRope(r)) return -2;
            int bits = 0;
            for (int[] s : slipped(r)) bits |= 1 << s[0];
            return bits;
        }

        int[] feelAndLeave(int r) {
            List<List<Integer>> thought = new ArrayList<>();
            for (int[] s : slipped(r)) {
                List<Integer> t = new ArrayList<>(knotsOf(r));
                t.set(s[0], s[1]);
                thought.add(t);
            }
            if (read(knotsOf(r)).ways > 0) thought.add(knotsOf(r));
            int best = thought.size(), at = -1;
            for (int p = 0; p < knotsOf(r).size(); p++) {
                Map<Integer, Integer> by = new TreeMap<>();
                for (List<Integer> t : thought) by.merge(t.get(p), 1, Integer::sum);
                int worst = 0;
                for (int v : by.values()) worst = Math.max(worst, v);
                if (worst < best) {
                    best = worst;
                    at = p;
                }
            }
            return new int[] {at, best};
        }

        int feel(int r) {
            return isRope(r) ? feelAndLeave(r)[0] : -2;
        }

        int leaves(int r) {
            return isRope(r) ? feelAndLeave(r)[1] : -2;
        }

        int[] forgery(int r) {
            int[] best = {-1, -1, -1};
            Read own = read(knotsOf(r));
            if (own.ways == 0) return best;
            for (int[] s : slipped(r)) {
                int d = Math.abs(s[2] - own.sums.first());
                if (d > best[0]) best = new int[] {d, s[0], s[1]};
            }
            return best;
        }

        int forged(int r) {
            return isRope(r) ? forgery(r)[0] : -2;
        }

        int forge(int r, int what) {
            return isRope(r) && (what == 0 || what == 1) ? forgery(r)[1 + what] : -2;
        }

        int overlapOf(List<Integer> a, List<Integer> b, int most) {
            int best = 0;
            for (int n = 1; n <= most && n <= a.size() && n <= b.size(); n++) {
                if (a.subList(a.size() - n, a.size()).equals(b.subList(0, n))) best = n;
            }
            return best;
        }

        int overlap(int r, int o) {
            if (!isRope(r) || !isRope(o)) return -2;
            return overlapOf(knotsOf(r), knotsOf(o), r == o ? knotsOf(r).size() - 1 : 99);
        }

        List<List<Integer>> orders(List<Integer> of) {
            List<List<Integer>> out = new ArrayList<>();
            if (of.isEmpty()) {
                out.add(new ArrayList<>());
                return out;
            }
            for (int x : of) {
                List<Integer> rest = new ArrayList<>(of);
                rest.remove((Integer) x);
                for (List<Integer> o : orders(rest)) {
                    o.add(0, x);
                    out.add(o);
                }
            }
            return out;
        }

        /** The text laid (first row), and the order (second). */
        List<List<Integer>> laid() {
            List<Integer> stay = new ArrayList<>();
            for (int r = 0; r < land.now.ropes.size(); r++) {
                boolean in = false;
                for (int o = 0; o < land.now.ropes.size(); o++) {
                    if (o == r || Collections.indexOfSubList(knotsOf(o), knotsOf(r)) < 0) continue;
                    if (!knotsOf(o).equals(knotsOf(r)) || o < r) in = true;
                }
                if (!in) stay.add(r);
            }
            List<Integer> text = null, order = null;
            for (List<Integer> o : orders(stay)) {
                List<Integer> t = new ArrayList<>();
                List<Integer> ahead = new ArrayList<>();
                for (int r : o) {
                    t.addAll(knotsOf(r).subList(overlapOf(ahead, knotsOf(r), 99), knotsOf(r).size()));
                    ahead = knotsOf(r);
                }
                if (text == null || t.size() < text.size()) {
                    text = t;
                    order = o;
                }
            }
            for (Line l : land.now.ropes) {
                if (Collections.indexOfSubList(text, l.knots) < 0) throw new IllegalStateException("not a part");
            }
            return List.of(text, order);
        }

        int all() {
            return land.lines == 0 ? -2 : laid().get(0).size();
        }

        int order(int i) {
            if (land.lines == 0) return -2;
            List<Integer> o = laid().get(1);
            return i < 0 || i >= o.size() ? -1 : o.get(i);
        }

        int part(int r, int o) {
            return isRope(r) && isRope(o) ? Collections.indexOfSubList(knotsOf(r), knotsOf(o)) : -2;
        }

        int distance(List<Integer> a, List<Integer> b) {
            int[][] d = new int[a.size() + 1][b.size() + 1];
            for (int i = 0; i <= a.size(); i++) {
                for (int j = 0; j <= b.size(); j++) {
                    if (i == 0 || j == 0) {
                        d[i][j] = i + j;
                        continue;
                    }
                    int c = d[i - 1][j - 1] + (a.get(i - 1).equals(b.get(j - 1)) ? 0 : 1);
                    d[i][j] = Math.min(c, 1 + Math.min(d[i - 1][j], d[i][j - 1]));
                }
            }
            return d[a.size()][b.size()];
        }

        int errors(int r, int o) {
            return isRope(r) && isRope(o) ? distance(knotsOf(r), knotsOf(o)) : -2;
        }

        int common(int r, int o) {
            if (!isRope(r) || !isRope(o)) return -2;
            List<Integer> a = knotsOf(r), b = knotsOf(o);
            int[][] d = new int[a.size() + 1][b.size() + 1];
            for (int i = 1; i <= a.size(); i++) {
                for (int j = 1; j <= b.size(); j++) {
                    d[i][j] = Math.max(d[i - 1][j], d[i][j - 1]);
                    if (a.get(i - 1).equals(b.get(j - 1))) d[i][j] = Math.max(d[i][j], d[i - 1][j - 1] + 1);
                }
            }
            return d[a.size()][b.size()];
        }

        /** How many are felt, the first place; null: it can't be told. */
        int[] tell(List<Integer> ropes) {
            if (ropes.size() == 1) return new int[] {0, -1};
            int[] best = null;
            for (int p = 0; p < 24; p++) {
                Map<Integer, List<Integer>> by = new TreeMap<>();
                for (int r : ropes) by.computeIfAbsent(at(r, p), x -> new ArrayList<>()).add(r);
                if (by.size() == 1) continue;
                int worst = 0;
                for (List<Integer> left : by.values()) {
                    int[] t = tell(left);
                    if (t == null) return null;
                    worst = Math.max(worst, t[0] + 1);
                }
                if (best == null || worst < best[0]) best = new int[] {worst, p};
            }
            return best;
        }

        int touch(int set, int what) {
            if (set < 1 || set >= 1 << land.now.ropes.size()) return -2;
            List<Integer> ropes = new ArrayList<>();
            for (int r = 0; r < 6; r++) if ((set >> r & 1) == 1) ropes.add(r);
            int[] t = tell(ropes);
            return t == null ? -1 : t[what];
        }

        /** All ways that come to no place twice, in the order of their rows. */
        void walk(int p, int at, int to, TreeSet<Integer> been, List<Integer> row, List<List<Integer>> out) {
            if (at == to) {
                out.add(new ArrayList<>(row));
                return;
            }
            for (int r = 0; r < land.now.ropes.size(); r++) {
                Line l = land.now.ropes.get(r);
                int far = l.first == at ? l.second : l.second == at ? l.first : -1;
                if (far < 0 || been.contains(far) || strength(r) < land.now.persons.get(p).weighs) continue;
                been.add(far);
                row.add(r);
                walk(p, far, to, been, row, out);
                row.remove(row.size() - 1);
                been.remove(far);
            }
        }

        List<List<Integer>> walks(int p, int from, int to) {
            List<List<Integer>> out = new ArrayList<>();
            walk(p, from, to, new TreeSet<>(List.of(from)), new ArrayList<>(), out);
            return out;
        }

        int time(int p, List<Integer> row) {
            int t = 0;
            for (int r : row) t += inchesOf(r) * land.now.persons.get(p).pace;
            return t;
        }

        boolean noWay(int p, int from, int to) {
            return !isPerson(p) || from < 0 || to < 0 || from >= land.places || to >= land.places;
        }

        List<Integer> best(int p, int from, int to) {
            List<Integer> best = null;
            for (List<Integer> w : walks(p, from, to)) {
                if (best == null || time(p, w) < time(p, best)) best = w;
            }
            return best;
        }

        int way(int p, int from, int to) {
            if (noWay(p, from, to)) return -2;
            List<Integer> b = best(p, from, to);
            return b == null ? -1 : time(p, b);
        }

        int by(int p, int from, int to, int i) {
            if (noWay(p, from, to)) return -2;
            List<Integer> b = best(p, from, to);
            return b == null || i < 0 || i >= b.size() ? -1 : b.get(i);
        }

        /** Least times to (place, learned or not), made better until nothing gets better. */
        int learns(int p, int from, int to, int sum) {
            if (noWay(p, from, to) || sum < 0 || sum > 2400) return -2;
            int far = 1 << 28;
            int[][] t = new int[6][2];
            for (int[] row : t) Arrays.fill(row, far);
            t[from][0] = 0;
            for (boolean more = true; more;) {
                more = false;
                for (int r = 0; r < land.now.ropes.size(); r++) {
                    Line l = land.now.ropes.get(r);
                    if (strength(r) < land.now.persons.get(p).weighs) continue;
                    int cost = inchesOf(r) * land.now.persons.get(p).pace;
                    for (int back = 0; back < 2; back++) {
                        boolean has = has(r, back, sum) == 1;
                        int a = back == 0 ? l.first : l.second, b = back == 0 ? l.second : l.first;
                        for (int knows = 0; knows < 2; knows++) {
                            int then = has ? 1 : knows;
                            if (t[a][knows] + cost < t[b][then]) {
                                t[b][then] = t[a][knows] + cost;
                                more = true;
                            }
                        }
                    }
                }
            }
            return t[to][1] >= far ? -1 : t[to][1];
        }

        int keys(int p, int from, int to) {
            if (noWay(p, from, to)) return -2;
            int bits = 63;
            List<List<Integer>> all = walks(p, from, to);
            for (List<Integer> w : all) {
                int on = 0;
                for (int r : w) on |= 1 << r;
                bits &= on;
            }
            return all.isEmpty() ? 0 : bits;
        }

        /** All partings of the persons from one on into groups. */
        void partings(int p, List<Integer> groups, List<List<Integer>> out) {
            if (p == land.now.persons.size()) {
                out.add(new ArrayList<>(groups));
                return;
            }
            for (int g = 0; g < groups.size(); g++) {
                groups.set(g, groups.get(g) | 1 << p);
                partings(p + 1, groups, out);
                groups.set(g, groups.get(g) & ~(1 << p));
            }
            groups.add(1 << p);
            partings(p + 1, groups, out);
            groups.remove(groups.size() - 1);
        }

        int[] group(int set) {
            int weight = 0, pace = 0;
            for (int p = 0; p < land.now.persons.size(); p++) {
                if ((set >> p & 1) == 0) continue;
                weight += land.now.persons.get(p).weighs;
                pace = Math.max(pace, land.now.persons.get(p).pace);
            }
            return new int[] {weight, pace};
        }

        int ferries(int r, int what) {
            if (!isRope(r)) return -2;
            List<List<Integer>> all = new ArrayList<>();
            partings(0, new ArrayList<>(), all);
            int time = -1, fewest = -1, first = -1;
            for (List<Integer> groups : all) {
                int t = 0;
                boolean ok = true;
                int with = -1;
                for (int g : groups) {
                    ok &= group(g)[0] <= strength(r);
                    t += group(g)[1] * inchesOf(r);
                    if ((g & 1) == 1) with = g;
                }
                if (!ok) continue;
                if (fewest < 0 || groups.size() < fewest) fewest = groups.size();
                if (time < 0 || t < time || t == time && with < first) {
                    time = t;
                    first = with;
                }
            }
            return new int[] {time, fewest, first}[what];
        }

        int lasts(int r, int weighs) {
            if (!isRope(r) || weighs < 1 || weighs > 999) return -2;
            int s = strength(r), n = 0;
            if (land.wear == 0 && weighs <= s) return -1;
            for (; weighs <= s; s -= land.wear) n++;
            return n;
        }

        int bears(int r) {
            if (!isRope(r)) return -2;
            List<Integer> w = new ArrayList<>();
            for (Walker p : land.now.persons) w.add(p.weighs);
            Collections.sort(w);
            int left = strength(r), n = 0;
            for (int x : w) {
                left -= x;
                if (left < 0) break;
                n++;
            }
            return n;
        }

        boolean tired() {
            return land.before.size() >= 40;
        }

        void keep() {
            land.before.add(land.now.copy());
        }

        int cross(int p, int r) {
            if (!isPerson(p) || !isRope(r)) return -2;
            Walker w = land.now.persons.get(p);
            Line l = land.now.ropes.get(r);
            if (tired() || w.place != l.first && w.place != l.second || w.weighs > strength(r)) return -5;
            keep();
            l.crossed++;
            return w.place = w.place == l.first ? l.second : l.first;
        }

        int tie(int r, int i, int kind) {
            if (!isRope(r) || i < 0 || i >= knotsOf(r).size() || kind < 0 || kind >= land.kinds.size()) return -2;
            if (tired()) return -5;
            keep();
            return knotsOf(r).set(i, kind);
        }

        int cut(int r, int n) {
            if (!isRope(r) || n < 1 || n > knotsOf(r).size() - 1) return -2;
            if (tired()) return -5;
            keep();
            int was = knotsOf(r).size();
            land.now.ropes.get(r).knots = new ArrayList<>(knotsOf(r).subList(0, n));
            return was - n;
        }

        int splice(int r, int o) {
            if (!isRope(r) || !isRope(o)) return -2;
            if (tired() || knotsOf(r).size() + knotsOf(o).size() > 24) return -5;
            keep();
            knotsOf(r).addAll(new ArrayList<>(knotsOf(o)));
            return knotsOf(r).size();
        }

        int wet(int is) {
            if (land.lines == 0 || is < 0 || is > 1) return -2;
            if (tired()) return -5;
            keep();
            int was = land.now.wet;
            land.now.wet = is;
            return was;
        }

        int undo() {
            if (land.lines == 0) return -2;
            if (land.before.isEmpty()) return -5;
            land.now = land.before.remove(land.before.size() - 1);
            return land.before.size();
        }

        int anew() {
            if (land.lines == 0) return -2;
            int n = land.before.size();
            while (!land.before.isEmpty()) undo();
            return n;
        }

        int[] draw(int seed, int r) {
            java.math.BigInteger x = java.math.BigInteger.valueOf(seed);
            List<Integer> copy = new ArrayList<>();
            for (int k : knotsOf(r)) {
                x = x.multiply(java.math.BigInteger.valueOf(1103515245)).add(java.math.BigInteger.valueOf(12345)).mod(java.math.BigInteger.valueOf(2147483648L));
                int d = x.intValueExact() / 65536 % 100;
                copy.add(d < land.odds ? (k + 1) % land.kinds.size() : k);
            }
            int changed = 0;
            for (int i = 0; i < copy.size(); i++) if (!copy.get(i).equals(knotsOf(r).get(i))) changed++;
            Read read = read(copy);
            return new int[] {changed, read.ways > 0 ? 1 : 0, read.ways > 0 ? read.sums.first() : -1};
        }

        int drawn(int seed, int r, int what) {
            return !isRope(r) || seed < 0 || seed > 2000000000 || what < 0 || what > 2 ? -2 : draw(seed, r)[what];
        }

        int winters(int seed, int r, int n) {
            if (!isRope(r) || seed < 0 || seed > 2000000000 || n < 1 || n > 20) return -2;
            int c = 0;
            for (int i = 0; i < n; i++) {
                int[] d = draw(seed + i, r);
                if (d[0] > 0 && d[1] == 1) c++;
            }
            return c;
        }

        int refused;

        List<Integer> slot(int s) {
            refused = -2;
            if (s < 0 || s > 3 || land.lines == 0) return null;
            refused = -6;
            if (rows[s] == null) return null;
            refused = -2;
            if (rows[s].length > 24) return null;
            List<Integer> t = new ArrayList<>();
            for (long v : rows[s]) {
                if (v < 0 || v >= land.kinds.size()) return null;
                t.add((int) v);
            }
            return t;
        }

        int text(int s) {
            List<Integer> t = slot(s);
            return t == null ? refused : (int) read(t).ways;
        }

        int like(int s) {
            List<Integer> t = slot(s);
            if (t == null) return refused;
            int best = -1;
            for (int r = 0; r < land.now.ropes.size(); r++) {
                if (best < 0 || distance(t, knotsOf(r)) < distance(t, knotsOf(best))) best = r;
            }
            return best;
        }

        int found(int s) {
            List<Integer> t = slot(s);
            if (t == null) return refused;
            int bits = 0;
            for (int r = 0; r < land.now.ropes.size(); r++) {
                if (Collections.indexOfSubList(knotsOf(r), t) >= 0) bits |= 1 << r;
            }
            return bits;
        }

        /** The least texts that can be read, by how many knots they differ, ahead of one place on. */
        List<Integer> mending(List<Integer> t) {
            // by place, by how many are changed: the least row up to there
            List<TreeMap<Integer, List<Integer>>> upTo = new ArrayList<>();
            for (int n = 0; n <= t.size(); n++) {
                TreeMap<Integer, List<Integer>> here = new TreeMap<>();
                upTo.add(here);
                if (n == 0) here.put(0, new ArrayList<>());
                for (Word w : land.words) {
                    int s = n - w.knots.size();
                    if (s < 0) continue;
                    int diff = 0;
                    for (int i = s; i < n; i++) if (!t.get(i).equals(w.knots.get(i - s))) diff++;
                    for (Map.Entry<Integer, List<Integer>> e : upTo.get(s).entrySet()) {
                        List<Integer> row = new ArrayList<>(e.getValue());
                        row.addAll(w.knots);
                        here.merge(e.getKey() + diff, row, (a, b) -> compareRows(a, b) <= 0 ? a : b);
                    }
                }
            }
            TreeMap<Integer, List<Integer>> end = upTo.get(t.size());
            return end.isEmpty() ? null : end.firstEntry().getValue();
        }

        int mend(int s) {
            List<Integer> t = slot(s);
            if (t == null) return refused;
            List<Integer> m = mending(t);
            if (m == null) return -1;
            int n = 0;
            for (int i = 0; i < t.size(); i++) if (!m.get(i).equals(t.get(i))) n++;
            return n;
        }

        int mended(int s, int i) {
            List<Integer> t = slot(s);
            if (t == null) return refused;
            List<Integer> m = mending(t);
            return m == null || i < 0 || i >= m.size() ? -1 : m.get(i);
        }

        int count(int what) {
            if (what < 0 || what > 11) return -1;
            int rowsThere = 0;
            for (long[] r : rows) if (r != null) rowsThere++;
            return new int[] {land.places, land.wear, land.odds, land.kinds.size(), land.words.size(), land.now.ropes.size(),
                land.now.persons.size(), land.now.wet, land.before.size(), land.lines, size, rowsThere}[what];
        }

        int image(int k) {
            if (k < 0 || k > 2) return -2;
            images[k] = land.copy();
            return 0;
        }

        int back(int k) {
            if (k < 0 || k > 2) return -2;
            if (images[k] == null) return -6;
            land = images[k].copy();
            return 0;
        }

        int row(int s, int width, int n) {
            if (s < 0 || s > 3 || width < 0 || width > 3 || n > 60) return -2;
            if (n < 0) return -3;
            rows[s] = new long[n];
            widths[s] = width;
            return 0;
        }

        int write(int s, int i, long v) {
            if (s < 0 || s > 3) return -2;
            if (rows[s] == null) return -6;
            if (i < 0 || i >= rows[s].length) return -7;
            int bits = 8 << widths[s];
            rows[s][i] = bits == 64 ? v : v & ((1L << bits) - 1);
            return 0;
        }

        int paste(int s, int i, int to, int k, int n) {
            if (s < 0 || s > 3 || to < 0 || to > 3) return -2;
            if (rows[s] == null || rows[to] == null) return -6;
            if (widths[s] != widths[to]) return -8;
            if (i < 0 || k < 0 || n < 0 || (long) i + n > rows[s].length || (long) k + n > rows[to].length) return -7;
            long[] were = rows[s].clone();
            for (int j = 0; j < n; j++) rows[to][k + j] = were[i + j];
            return 0;
        }
    }

    static final Random random = new Random(7);
    static int wrong = 0;
    static final ArrayDeque<String> trail = new ArrayDeque<>();

    static int some(int n) {
        return random.nextInt(n);
    }

    /** A number of 0 .. n less 1, now and then one beside. */
    static int near(int n) {
        int x = some(90);
        if (x == 0) return -1;
        if (x == 1) return n;
        if (x == 2) return some(2) == 0 ? Integer.MAX_VALUE : Integer.MIN_VALUE;
        return n <= 0 ? 0 : some(n);
    }

    static void due(String call, long got, long want) {
        trail.add(call + " = " + got);
        if (trail.size() > 12) trail.poll();
        if (got != want && wrong++ < 10) {
            System.out.println(call + " answered " + got + ", due is " + want + "; ahead of it: " + trail);
        }
    }

    static String tale() {
        StringBuilder sb = new StringBuilder();
        int places = 2 + some(5), kinds = some(12) == 0 ? some(2) : 1 + some(6), words = some(12) == 0 ? 0 : 1 + some(10);
        int alphabet = Math.max(1, some(3) == 0 ? kinds : Math.min(kinds, 2));
        sb.append("gorge places ").append(places).append(" wear ").append(some(3) == 0 ? 0 : some(30)).append(" odds ").append(some(101)).append(some(9) == 0 ? "\n;" : ";");
        for (int i = 0; i < kinds; i++) sb.append("knot inches ").append(1 + some(9)).append(" weak ").append(some(51)).append(";");
        TreeSet<String> seen = new TreeSet<>();
        for (int i = 0; i < words && kinds > 0; i++) {
            StringBuilder w = new StringBuilder();
            for (int k = some(4) == 0 ? 1 + some(4) : 1 + some(2); k > 0; k--) w.append(" ").append(some(alphabet));
            if (seen.add(w.toString()) || some(60) == 0) sb.append("word").append(w).append(" means ").append(some(4) == 0 ? some(100) : some(8)).append(";");
        }
        int ropes = some(10) == 0 ? 0 : 1 + some(6);
        for (int i = 0; i < ropes && kinds > 0; i++) {
            int a = some(places), b = (a + 1 + some(places - 1)) % places;
            sb.append("rope ").append(a).append(" to ").append(b).append(" bears ").append(1 + some(some(3) == 0 ? 999 : 200)).append(" of");
            for (int k = some(3) == 0 ? 1 + some(12) : 1 + some(4); k > 0; k--) sb.append(" ").append(some(alphabet));
            sb.append(";");
        }
        int persons = some(10) == 0 ? 0 : 1 + some(6);
        for (int i = 0; i < persons; i++) sb.append("person weighs ").append(1 + some(some(5) == 0 ? 999 : 60)).append(" pace ").append(1 + some(9)).append(" at ").append(some(places)).append(";");
        return sb.toString();
    }

    static final String[] SCRAPS = {"gorge", "knot", "word", "rope", "person", ";", "means", "to", "bears", "of", "at", "0", "1", "5", "7", "100", "1000",
        "00000000000000000001", "99999999999999999999", "#", "K", "places", "\t", "\u00e9", "knot inches 1 weak 0;", "word 0 1 0 1 1", "rope 0 to 1 bears 1 of 0", "person weighs 1 pace 1 at 0;"};

    static String spoil(String tale) {
        List<String> t = new ArrayList<>(Arrays.asList(tale.replace(";", " ; ").trim().split(" +")));
        for (int n = 1 + some(2); n > 0 && !t.isEmpty(); n--) {
            int at = some(t.size());
            switch (some(4)) {
                case 0:
                    t.remove(at);
                    break;
                case 1:
                    t.add(at, SCRAPS[some(SCRAPS.length)]);
                    break;
                case 2:
                    t.set(at, SCRAPS[some(SCRAPS.length)]);
                    break;
                default:
                    t = new ArrayList<>(t.subList(0, at));
            }
        }
        return String.join(some(4) == 0 ? "\n" : " ", t) + (some(3) == 0 ? " " : "");
    }

    static void feedAll(KnotRope x, Model m, String tale) {
        for (int i = 0; i < tale.length(); i += 20) {
            int[] f = new int[5];
            for (int j = 0; j < 20; j++) {
                int b = i + j < tale.length() ? tale.charAt(i + j) : 0;
                f[j / 4] = f[j / 4] << 8 | b;
            }
            due("feed", x.feed(f[0], f[1], f[2], f[3], f[4]), m.feed(f));
        }
        int n = Math.min(tale.length(), 1400);
        due("end(" + n + ")", x.end(n), m.end(n));
    }

    static void tell(KnotRope x, Model m, boolean spoilt) {
        String tale = spoilt ? spoil(tale()) : tale();
        feedAll(x, m, tale);
        due("gorge() of " + tale, x.gorge(), m.gorge());
        due("fault(0)", x.fault(0), m.fault(0));
        due("fault(1)", x.fault(1), m.fault(1));
    }

    static void ask(KnotRope x, Model m) {
        int r = near(m.land.now.ropes.size()), o = near(m.land.now.ropes.size()), p = near(m.land.now.persons.size());
        int a = near(m.land.places), b = near(m.land.places), w = near(m.land.words.size()), k = near(m.land.kinds.size());
        int way = near(2), i = some(2) == 0 ? some(3) : near(7), s = near(4), sum = someSum(m), want = some(2) == 0 ? 1 + some(30) : near(502);
        int weak = some(2) == 0 ? 50 : near(52);
        switch (some(62)) {
            case 0: { int q = near(3); due("fault(" + q + ")", x.fault(q), m.fault(q)); break; }
            case 1: { int q = near(3); due("knot(" + k + ", " + q + ")", x.knot(k, q), m.knot(k, q)); break; }
            case 2: due("word(" + w + ", " + i + ")", x.word(w, i), m.word(w, i)); break;
            case 3: due("means(" + w + ")", x.means(w), m.means(w)); break;
            case 4: case 5: { int q = near(8); due("rope(" + r + ", " + q + ")", x.rope(r, q), m.rope(r, q)); break; }
            case 6: { int q = near(13); due("at(" + r + ", " + q + ")", x.at(r, q), m.at(r, q)); break; }
            case 7: { int q = near(4); due("person(" + p + ", " + q + ")", x.person(p, q), m.person(p, q)); break; }
            case 8: due("reads(" + r + ", " + way + ")", x.reads(r, way), m.reads(r, way)); break;
            case 9: due("says(" + r + ", " + way + ", " + i + ")", x.says(r, way, i), m.says(r, way, i)); break;
            case 10: { int q = near(2); due("sum(" + r + ", " + way + ", " + q + ")", x.sum(r, way, q), m.sum(r, way, q)); break; }
            case 11: due("has(" + r + ", " + way + ", " + sum + ")", x.has(r, way, sum), m.has(r, way, sum)); break;
            case 12: due("shortest(" + want + ", " + weak + ")", x.shortest(want, weak), m.shortest(want, weak)); break;
            case 13: due("writes(" + want + ", " + weak + ", " + i + ")", x.writes(want, weak, i), m.writes(want, weak, i)); break;
            case 14: due("slips(" + r + ")", x.slips(r), m.slips(r)); break;
            case 15: due("spots(" + r + ")", x.spots(r), m.spots(r)); break;
            case 16: due("feel(" + r + ")", x.feel(r), m.feel(r)); break;
            case 17: due("leaves(" + r + ")", x.leaves(r), m.leaves(r)); break;
            case 18: due("forged(" + r + ")", x.forged(r), m.forged(r)); break;
            case 19: { int q = near(2); due("forge(" + r + ", " + q + ")", x.forge(r, q), m.forge(r, q)); break; }
            case 20: due("overlap(" + r + ", " + o + ")", x.overlap(r, o), m.overlap(r, o)); break;
            case 21: due("all()", x.all(), m.all()); break;
            case 22: due("order(" + i + ")", x.order(i), m.order(i)); break;
            case 23: due("part(" + r + ", " + o + ")", x.part(r, o), m.part(r, o)); break;
            case 24: due("errors(" + r + ", " + o + ")", x.errors(r, o), m.errors(r, o)); break;
            case 25: due("common(" + r + ", " + o + ")", x.common(r, o), m.common(r, o)); break;
            case 26: { int set = near(1 << m.land.now.ropes.size()); due("which(" + set + ")", x.which(set), m.touch(set, 0)); break; }
            case 27: { int set = near(1 << m.land.now.ropes.size()); due("feels(" + set + ")", x.feels(set), m.touch(set, 1)); break; }
            case 28: due("way(" + p + ", " + a + ", " + b + ")", x.way(p, a, b), m.way(p, a, b)); break;
            case 29: due("by(" + p + ", " + a + ", " + b + ", " + i + ")", x.by(p, a, b, i), m.by(p, a, b, i)); break;
            case 30: due("learns(" + p + ", " + a + ", " + b + ", " + sum + ")", x.learns(p, a, b, sum), m.learns(p, a, b, sum)); break;
            case 31: due("keys(" + p + ", " + a + ", " + b + ")", x.keys(p, a, b), m.keys(p, a, b)); break;
            case 32: due("ferry(" + r + ")", x.ferry(r), m.ferries(r, 0)); break;
            case 33: due("groups(" + r + ")", x.groups(r), m.ferries(r, 1)); break;
            case 34: due("group(" + r + ")", x.group(r), m.ferries(r, 2)); break;
            case 35: { int q = near(1001); due("lasts(" + r + ", " + q + ")", x.lasts(r, q), m.lasts(r, q)); break; }
            case 36: due("bears(" + r + ")", x.bears(r), m.bears(r)); break;
            case 37: case 38: case 39: due("cross(" + p + ", " + r + ")", x.cross(p, r), m.cross(p, r)); break;
            case 40: due("tie(" + r + ", " + i + ", " + k + ")", x.tie(r, i, k), m.tie(r, i, k)); break;
            case 41: { int q = near(9); due("cut(" + r + ", " + q + ")", x.cut(r, q), m.cut(r, q)); break; }
            case 42: due("splice(" + r + ", " + o + ")", x.splice(r, o), m.splice(r, o)); break;
            case 43: due("wet(" + way + ")", x.wet(way), m.wet(way)); break;
            case 44: due("undo()", x.undo(), m.undo()); break;
            case 45: if (some(6) == 0) due("anew()", x.anew(), m.anew()); break;
            case 46: case 47: { int seed = some(3) == 0 ? near(2000000001) : some(50), q = near(3); due("drawn(" + seed + ", " + r + ", " + q + ")", x.drawn(seed, r, q), m.drawn(seed, r, q)); break; }
            case 48: { int seed = some(3) == 0 ? near(2000000001) : some(50), q = near(22); due("winters(" + seed + ", " + r + ", " + q + ")", x.winters(seed, r, q), m.winters(seed, r, q)); break; }
            case 49: due("text(" + s + ")", x.text(s), m.text(s)); break;
            case 50: due("like(" + s + ")", x.like(s), m.like(s)); break;
            case 51: due("found(" + s + ")", x.found(s), m.found(s)); break;
            case 52: due("mend(" + s + ")", x.mend(s), m.mend(s)); break;
            case 53: due("mended(" + s + ", " + i + ")", x.mended(s, i), m.mended(s, i)); break;
            case 54: { int q = near(12); due("count(" + q + ")", x.count(q), m.count(q)); break; }
            case 55: { int q = near(3); due("image(" + q + ")", x.image(q), m.image(q)); break; }
            case 56: if (some(3) == 0) { int q = near(3); due("back(" + q + ")", x.back(q), m.back(q)); } break;
            case 57: { int q = near(4), n = some(9) == 0 ? near(62) : near(8); due("row(" + s + ", " + q + ", " + n + ")", x.row(s, q, n), m.row(s, q, n)); fill(x, m, s); break; }
            case 58: fill(x, m, s); break;
            case 59: case 60: { int to = near(4), q = near(6), n = near(6); due("paste(" + s + ", " + i + ", " + to + ", " + q + ", " + n + ")", x.paste(s, i, to, q, n), m.paste(s, i, to, q, n)); break; }
            default: if (some(10) == 0) tell(x, m, some(4) != 0);
        }
    }

    /** A sum that a rope has, if there is one, so that not all are asked for in vain. */
    static int someSum(Model m) {
        int ropes = m.land.now.ropes.size();
        if (ropes > 0 && some(4) != 0) {
            List<Integer> sums = new ArrayList<>(m.readRope(some(ropes), some(2)).sums);
            if (!sums.isEmpty()) return sums.get(some(sums.size()));
        }
        return near(some(2) == 0 ? 30 : 2402);
    }

    static void fill(KnotRope x, Model m, int s) {
        for (int i = 0; i < 8; i++) {
            long v = some(30) == 0 ? random.nextLong() : some(12) == 0 ? 256L * some(3) : some(Math.max(1, Math.min(2, m.land.kinds.size())));
            if (s >= 0 && s < 4 && m.rows[s] != null && i >= m.rows[s].length && some(9) != 0) continue;
            int at = some(20) == 0 ? near(61) : i;
            due("write(" + s + ", " + at + ", " + v + ")", x.write(s, at, v), m.write(s, at, v));
        }
    }

    public static void main(String[] args) {
        int runs = args.length > 0 ? Integer.parseInt(args[0]) : 600;
        for (int run = 0; run < runs; run++) {
            KnotRope x = new KnotRope();
            Model m = new Model();
            trail.clear();
            if (some(20) != 0) tell(x, m, false);
            for (int slot = some(4); slot < 4; slot++) {
                int n = 1 + some(7);
                due("row(" + slot + ", 0, " + n + ")", x.row(slot, 0, n), m.row(slot, 0, n));
                fill(x, m, slot);
            }
            for (int i = 0; i < 300; i++) ask(x, m);
        }
        for (int run = 0; run < 4 * runs; run++) {
            KnotRope x = new KnotRope();
            Model m = new Model();
            String tale = spoil(tale());
            feedAll(x, m, tale);
            due("gorge() of " + tale, x.gorge(), m.gorge());
            due("fault(0) of " + tale, x.fault(0), m.fault(0));
            due("fault(1) of " + tale, x.fault(1), m.fault(1));
        }
        System.out.println(wrong == 0 ? "all answers are as the model's" : wrong + " answers are not as the model's");
        if (wrong != 0) System.exit(1);
    }
}
