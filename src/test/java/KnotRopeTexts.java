import java.util.ArrayDeque;
import java.util.ArrayList;
import java.util.Arrays;
import java.util.Collections;
import java.util.HashMap;
import java.util.List;
import java.util.Map;
import java.util.Random;
import java.util.TreeSet;

/**
 * Small drawn gorges, each answer by the document's words alone: every text that there is and every reading of it
 * are listed, and the least or the greatest is taken, where the class and KnotRopeModel reckon with parts of texts.
 */
public final class KnotRopeTexts {
    private static final int LONGEST = 9;

    private static final Random random = new Random(41);
    private static int wrong = 0;
    private static String told = "";

    private static int kinds;
    private static int[] inches;
    private static int[] weak;
    private static final List<List<Integer>> words = new ArrayList<>();
    private static int[] means;
    private static final List<List<Integer>> ropes = new ArrayList<>();
    /** Every text of at most LONGEST knots, the shorter ahead of the longer, else the least row ahead. */
    private static final List<List<Integer>> texts = new ArrayList<>();

    private static int some(int n) {
        return random.nextInt(n);
    }

    private static void due(String call, long got, long want) {
        if (got != want && wrong++ < 20) {
            System.out.println(call + " answered " + got + ", due is " + want + " in " + told);
        }
    }

    private static List<Integer> someKnots(int n) {
        List<Integer> row = new ArrayList<>();
        for (int i = 0; i < n; i++) {
            row.add(some(kinds));
        }
        return row;
    }

    private static String spaced(List<Integer> row) {
        StringBuilder sb = new StringBuilder();
        for (int k : row) {
            sb.append(' ').append(k);
        }
        return sb.toString();
    }

    /** Lengths are such that the shortest texts asked for are mostly among those that are listed. */
    private static KnotRope tell() {
        StringBuilder sb = new StringBuilder("gorge places 2 wear 0 odds 0;");
        kinds = 1 + some(3);
        inches = new int[kinds];
        weak = new int[kinds];
        for (int k = 0; k < kinds; k++) {
            inches[k] = 1 + some(3);
            weak[k] = some(3) * 25;
            sb.append("knot inches ").append(inches[k]).append(" weak ").append(weak[k]).append(';');
        }
        words.clear();
        means = new int[6];
        for (int w = 1 + some(6); w > 0; w--) {
            List<Integer> word = someKnots(1 + some(3));
            if (!words.contains(word)) {
                means[words.size()] = some(6);
                sb.append("word").append(spaced(word)).append(" means ").append(means[words.size()]).append(';');
                words.add(word);
            }
        }
        ropes.clear();
        for (int r = 1 + some(4); r > 0; r--) {
            ropes.add(someKnots(1 + some(5)));
            sb.append("rope 0 to 1 bears 9 of").append(spaced(ropes.get(ropes.size() - 1))).append(';');
        }
        told = sb.toString();
        KnotRope x = new KnotRope();
        for (int i = 0; i < told.length(); i += 20) {
            int[] five = new int[5];
            for (int j = 0; j < 20; j++) {
                five[j / 4] = five[j / 4] << 8 | (i + j < told.length() ? told.charAt(i + j) : 0);
            }
            x.feed(five[0], five[1], five[2], five[3], five[4]);
        }
        x.end(told.length());
        due("gorge()", x.gorge(), 1 + kinds + words.size() + ropes.size());
        return x;
    }

    private static void listTexts() {
        texts.clear();
        texts.add(new ArrayList<>());
        int longest = kinds == 3 ? LONGEST - 3 : LONGEST;
        for (int i = 0; i < texts.size() && texts.get(i).size() < longest; i++) {
            for (int k = 0; k < kinds; k++) {
                List<Integer> longer = new ArrayList<>(texts.get(i));
                longer.add(k);
                texts.add(longer);
            }
        }
    }

    /** Every row of words that is this text, the least ahead. */
    private static List<List<Integer>> readings(List<Integer> text) {
        List<List<Integer>> found = new ArrayList<>();
        readOn(text, 0, new ArrayList<>(), found);
        return found;
    }

    private static void readOn(List<Integer> text, int from, List<Integer> row, List<List<Integer>> found) {
        if (from == text.size()) {
            found.add(new ArrayList<>(row));
            return;
        }
        for (int w = 0; w < words.size(); w++) {
            int to = from + words.get(w).size();
            if (to <= text.size() && text.subList(from, to).equals(words.get(w))) {
                row.add(w);
                readOn(text, to, row, found);
                row.remove(row.size() - 1);
            }
        }
    }

    private static int sumOf(List<Integer> row) {
        int sum = 0;
        for (int w : row) {
            sum += means[w];
        }
        return sum;
    }

    private static int inchesOf(List<Integer> text) {
        int all = 0;
        for (int i = 0; i < text.size(); i++) {
            all += inches[text.get(i)] + (i > 0 ? 1 : 0);
        }
        return all;
    }

    private static boolean isLess(List<Integer> a, List<Integer> b) {
        for (int i = 0; i < a.size() && i < b.size(); i++) {
            if (!a.get(i).equals(b.get(i))) {
                return a.get(i) < b.get(i);
            }
        }
        return a.size() < b.size();
    }

    private static int of(List<Integer> row, int i) {
        return row != null && i >= 0 && i < row.size() ? row.get(i) : -1;
    }

    private static void askReadings(KnotRope x) {
        for (int r = 0; r < ropes.size(); r++) {
            for (int back = 0; back < 2; back++) {
                List<Integer> text = new ArrayList<>(ropes.get(r));
                if (back == 1) {
                    Collections.reverse(text);
                }
                List<List<Integer>> all = readings(text);
                TreeSet<Integer> sums = new TreeSet<>();
                for (List<Integer> row : all) {
                    sums.add(sumOf(row));
                }
                due("reads", x.reads(r, back), all.size());
                for (int i = -1; i < 6; i++) {
                    due("says", x.says(r, back, i), of(all.isEmpty() ? null : all.get(0), i));
                }
                due("sum", x.sum(r, back, 0), sums.isEmpty() ? -1 : sums.first());
                due("sum", x.sum(r, back, 1), sums.isEmpty() ? -1 : sums.last());
                int asked = some(30);
                due("has", x.has(r, back, asked), sums.contains(asked) ? 1 : 0);
            }
        }
    }

    /** Texts that are too long to be listed have more inches than the bound. */
    private static void askShortest(KnotRope x) {
        int sum = 1 + some(12);
        int most = some(3) * 25;
        int longest = texts.get(texts.size() - 1).size();
        int bound = 2 * longest + 1;
        int fewest = -1;
        List<Integer> first = null;
        for (List<Integer> text : texts) {
            boolean holds = true;
            for (int k : text) {
                holds &= weak[k] <= most;
            }
            int in = inchesOf(text);
            if (!holds || in >= bound || fewest >= 0 && in > fewest) {
                continue;
            }
            for (List<Integer> row : readings(text)) {
                if (sumOf(row) == sum && (fewest < 0 || in < fewest || isLess(row, first))) {
                    fewest = in;
                    first = row;
                }
            }
        }
        int got = x.shortest(sum, most);
        String call = "shortest(" + sum + ", " + most + ")";
        if (fewest < 0) {
            due(call + " is none, or too long to be listed", got == -1 || got >= bound ? 1 : 0, 1);
            return;
        }
        due(call, got, fewest);
        for (int i = -1; i < 14; i++) {
            due("writes(" + sum + ", " + most + ", " + i + ")", x.writes(sum, most, i), of(first, i));
        }
    }

    private static int unlike(List<Integer> a, List<Integer> b) {
        int n = 0;
        for (int i = 0; i < a.size(); i++) {
            if (!a.get(i).equals(b.get(i))) {
                n++;
            }
        }
        return n;
    }

    private static void askSlips(KnotRope x) {
        for (int r = 0; r < ropes.size(); r++) {
            List<Integer> own = ropes.get(r);
            List<List<Integer>> thought = new ArrayList<>();
            int spots = 0;
            for (List<Integer> text : texts) {
                if (text.size() == own.size() && unlike(text, own) == 1 && !readings(text).isEmpty()) {
                    thought.add(text);
                    for (int i = 0; i < own.size(); i++) {
                        spots |= text.get(i).equals(own.get(i)) ? 0 : 1 << i;
                    }
                }
            }
            due("slips(" + r + ")", x.slips(r), thought.size());
            due("spots(" + r + ")", x.spots(r), spots);
            if (!readings(own).isEmpty()) {
                thought.add(own);
            }
            int place = -1;
            int left = thought.size();
            for (int i = 0; i < own.size(); i++) {
                int worst = 0;
                for (int k = 0; k < kinds; k++) {
                    int n = 0;
                    for (List<Integer> text : thought) {
                        n += text.get(i) == k ? 1 : 0;
                    }
                    worst = Math.max(worst, n);
                }
                if (worst < left) {
                    left = worst;
                    place = i;
                }
            }
            due("feel(" + r + ")", x.feel(r), place);
            due("leaves(" + r + ")", x.leaves(r), left);
        }
    }

    private static void askAll(KnotRope x) {
        for (List<Integer> text : texts) {
            boolean has = true;
            for (List<Integer> rope : ropes) {
                has &= Collections.indexOfSubList(text, rope) >= 0;
            }
            if (has) {
                due("all()", x.all(), text.size());
                return;
            }
        }
        due("all() is too long to be listed", x.all() > texts.get(texts.size() - 1).size() ? 1 : 0, 1);
    }

    /** From a text one error on and on, until the other one is met. */
    private static int fewestErrors(List<Integer> from, List<Integer> to) {
        Map<List<Integer>, Integer> met = new HashMap<>();
        ArrayDeque<List<Integer>> next = new ArrayDeque<>();
        met.put(from, 0);
        next.add(from);
        while (!met.containsKey(to)) {
            List<Integer> text = next.poll();
            for (int i = 0; i <= text.size(); i++) {
                for (int k = 0; k < kinds; k++) {
                    List<Integer> more = new ArrayList<>(text);
                    more.add(i, k);
                    List<Integer> other = new ArrayList<>(text);
                    List<Integer> less = new ArrayList<>(text);
                    if (i < text.size()) {
                        other.set(i, k);
                        less.remove(i);
                    }
                    for (List<Integer> changed : Arrays.asList(more, other, less)) {
                        // longer ones than both can't help: what is put in has to be left out again
                        if (changed.size() <= 6 && met.putIfAbsent(changed, met.get(text) + 1) == null) {
                            next.add(changed);
                        }
                    }
                }
            }
        }
        return met.get(to);
    }

    private static boolean standsIn(List<Integer> knots, List<Integer> text) {
        int seen = 0;
        for (int i = 0; i < text.size() && seen < knots.size(); i++) {
            seen += text.get(i).equals(knots.get(seen)) ? 1 : 0;
        }
        return seen == knots.size();
    }

    private static void askPairs(KnotRope x) {
        for (int r = 0; r < ropes.size(); r++) {
            for (int o = 0; o < ropes.size(); o++) {
                List<Integer> a = ropes.get(r);
                List<Integer> b = ropes.get(o);
                String pair = "(" + r + ", " + o + ")";
                int common = 0;
                for (List<Integer> text : texts) {
                    if (text.size() > common && standsIn(text, a) && standsIn(text, b)) {
                        common = text.size();
                    }
                }
                due("common" + pair, x.common(r, o), common);
                due("errors" + pair, x.errors(r, o), fewestErrors(a, b));
                due("part" + pair, x.part(r, o), Collections.indexOfSubList(a, b));
            }
        }
    }

    private static void askMended(KnotRope x) {
        List<Integer> torn = someKnots(some(7));
        x.row(2, 1, torn.size());
        for (int i = 0; i < torn.size(); i++) {
            x.write(2, i, torn.get(i));
        }
        List<Integer> best = null;
        for (List<Integer> text : texts) {
            if (text.size() == torn.size() && !readings(text).isEmpty()
                    && (best == null || unlike(text, torn) < unlike(best, torn))) {
                best = text;
            }
        }
        due("text of" + spaced(torn), x.text(2), readings(torn).size());
        due("mend of" + spaced(torn), x.mend(2), best == null ? -1 : unlike(best, torn));
        for (int i = -1; i < 8; i++) {
            due("mended of" + spaced(torn) + ", " + i, x.mended(2, i), of(best, i));
        }
        int like = 0;
        for (int r = 1; r < ropes.size(); r++) {
            like = fewestErrors(torn, ropes.get(r)) < fewestErrors(torn, ropes.get(like)) ? r : like;
        }
        due("like of" + spaced(torn), x.like(2), like);
    }

    public static void main(String[] args) {
        int gorges = args.length > 0 ? Integer.parseInt(args[0]) : 120;
        for (int i = 0; i < gorges; i++) {
            KnotRope x = tell();
            listTexts();
            askReadings(x);
            for (int n = 0; n < 4; n++) {
                askShortest(x);
                askMended(x);
            }
            askSlips(x);
            askAll(x);
            askPairs(x);
        }
        System.out.println(wrong == 0 ? "all answers are as listed" : wrong + " answers are not as listed");
        if (wrong != 0) {
            System.exit(1);
        }
    }
}
