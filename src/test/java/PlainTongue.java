import java.util.ArrayList;
import java.util.Comparator;
import java.util.List;

/**
 * The document a second time, written for being read and not for room or speed, with texts of '0'
 * and '1' as rows of beats and other ways to the same answers: every phrase is made and sorted, a
 * row is read by cutting the heard into parts, every way and all numbers of times are listed.
 */
final class PlainTongue {
    static final int NONE = -1, BAD = -2, NO = -3, FULL = -4, SPENT = -5;
    private static final int FAR = 1000000;

    /** A word's beats with endings behind them. */
    static final class Phrase {
        final String beats;
        final List<Integer> endings;

        Phrase(String beats, List<Integer> endings) {
            this.beats = beats;
            this.endings = endings;
        }
    }

    /** A row of words, and by how much the heard is off from it. */
    static final class Reading {
        final int off;
        final List<Integer> words;

        Reading(int off, List<Integer> words) {
            this.off = off;
            this.words = words;
        }
    }

    /** A way's hills, its chance and its hours. */
    static final class Way {
        final List<Integer> hills;
        final long chance;
        final int hours;

        Way(List<Integer> hills, long chance, int hours) {
            this.hills = hills;
            this.chance = chance;
            this.hours = hours;
        }
    }

    private final List<String> words = new ArrayList<>();
    private final List<String> endings = new ArrayList<>();
    private int bound = 1;
    private List<Phrase> chosen = new ArrayList<>();
    private final List<Integer> heard = new ArrayList<>();
    private List<Integer> last = new ArrayList<>();
    private final int[][] chance = new int[6][6];
    private final int[][] hours = new int[6][6];

    private int looks;
    private int fewest;
    private List<Phrase> leastRow;

    PlainTongue() {
        for (int[] row : hours) {
            java.util.Arrays.fill(row, 1);
        }
    }

    private static String text(int n, int bits) {
        StringBuilder b = new StringBuilder();
        for (int i = n - 1; i >= 0; i--) {
            b.append(bits / (1 << i) % 2);
        }
        return b.toString();
    }

    private static boolean isRow(int n, int bits) {
        return n >= 1 && n <= 6 && bits >= 0 && bits < Math.pow(2, n);
    }

    private void forget() {
        chosen = new ArrayList<>();
        for (int i = 0; i < words.size(); i++) {
            chosen.add(null);
        }
    }

    int word(int n, int bits) {
        if (!isRow(n, bits)) {
            return BAD;
        }
        if (words.size() == 10) {
            return FULL;
        }
        words.add(text(n, bits));
        forget();
        return words.size() - 1;
    }

    int ending(int n, int bits) {
        if (!isRow(n, bits)) {
            return BAD;
        }
        if (endings.size() == 5) {
            return FULL;
        }
        endings.add(text(n, bits));
        forget();
        return endings.size() - 1;
    }

    int bound(int v) {
        if (v < 1 || v > 9) {
            return BAD;
        }
        int was = bound;
        bound = v;
        forget();
        return was;
    }

    private List<Phrase> phrases(String word) {
        List<Phrase> all = new ArrayList<>();
        all.add(new Phrase(word, List.of()));
        for (int a = 0; a < endings.size(); a++) {
            all.add(new Phrase(word + endings.get(a), List.of(a)));
            for (int b = 0; b < endings.size(); b++) {
                all.add(new Phrase(word + endings.get(a) + endings.get(b), List.of(a, b)));
            }
        }
        all.sort(Comparator.<Phrase>comparingInt(p -> p.beats.length())
            .thenComparingInt(p -> p.endings.size())
            .thenComparing(p -> p.endings, PlainTongue::byNumbers));
        return all;
    }

    private static int byNumbers(List<Integer> a, List<Integer> b) {
        for (int i = 0; i < a.size() && i < b.size(); i++) {
            if (!a.get(i).equals(b.get(i))) {
                return a.get(i) - b.get(i);
            }
        }
        return a.size() - b.size();
    }

    private static int howFar(String a, String b) {
        int sum = 0;
        for (int i = 0; i < Math.max(a.length(), b.length()); i++) {
            if (i >= a.length() || i >= b.length() || a.charAt(i) != b.charAt(i)) {
                sum++;
            }
        }
        return sum;
    }

    private boolean apart(String a, String b) {
        return howFar(a, b) >= bound && !a.startsWith(b) && !b.startsWith(a);
    }

    private boolean apartFromAll(Phrase p, List<Phrase> others) {
        for (Phrase q : others) {
            if (q != null && !apart(p.beats, q.beats)) {
                return false;
            }
        }
        return true;
    }

    int choose() {
        List<Phrase> row = new ArrayList<>();
        for (String word : words) {
            Phrase first = null;
            for (Phrase p : phrases(word)) {
                if (first == null && apartFromAll(p, row)) {
                    first = p;
                }
            }
            row.add(first);
        }
        chosen = row;
        return count(3);
    }

    int least() {
        looks = 0;
        fewest = FAR;
        leastRow = null;
        look(new ArrayList<>(), 0);
        if (looks > 20000) {
            return SPENT;
        }
        if (leastRow == null) {
            return NONE;
        }
        chosen = leastRow;
        return fewest;
    }

    int looks() {
        return looks;
    }

    boolean foundARow() {
        return leastRow != null;
    }

    private void look(List<Phrase> row, int beats) {
        if (row.size() == words.size()) {
            fewest = beats;
            leastRow = new ArrayList<>(row);
            return;
        }
        for (Phrase p : phrases(words.get(row.size()))) {
            if (beats + p.beats.length() < fewest && looks <= 20000) {
                looks++;
                if (apartFromAll(p, row)) {
                    row.add(p);
                    look(row, beats + p.beats.length());
                    row.remove(row.size() - 1);
                }
            }
        }
    }

    private boolean isWord(int word) {
        return word >= 0 && word < words.size();
    }

    private String beats(int word) {
        return chosen.get(word) == null ? "" : chosen.get(word).beats;
    }

    int length(int word) {
        if (!isWord(word)) {
            return BAD;
        }
        return chosen.get(word) == null ? NONE : beats(word).length();
    }

    int beat(int word, int i) {
        if (!isWord(word)) {
            return BAD;
        }
        return i < 0 || i >= beats(word).length() ? NONE : beats(word).charAt(i) - '0';
    }

    int endingAt(int word, int i) {
        if (!isWord(word)) {
            return BAD;
        }
        Phrase p = chosen.get(word);
        return p == null || i < 0 || i >= p.endings.size() ? NONE : p.endings.get(i);
    }

    int far(int a, int b) {
        if (!isWord(a) || !isWord(b) || a == b) {
            return BAD;
        }
        return chosen.get(a) == null || chosen.get(b) == null ? NO : howFar(beats(a), beats(b));
    }

    int hear(int v) {
        if (v != 0 && v != 1 && v != NONE) {
            return BAD;
        }
        if (heard.size() == 60) {
            return FULL;
        }
        heard.add(v);
        return heard.size();
    }

    int drum(int word) {
        if (!isWord(word)) {
            return BAD;
        }
        if (chosen.get(word) == null) {
            return NO;
        }
        if (heard.size() + beats(word).length() > 60) {
            return FULL;
        }
        for (char c : beats(word).toCharArray()) {
            heard.add(c - '0');
        }
        return heard.size();
    }

    int slip(int i, int v) {
        if (v < -1 || v > 2 || i < 0 || i >= heard.size()) {
            return -100;
        }
        return v == 2 ? heard.remove(i) : heard.set(i, v);
    }

    int hush() {
        int was = heard.size();
        heard.clear();
        return was;
    }

    /** By how much the heard from place a on is off from these beats: one number for each end of it. */
    private int[] offToEachEnd(String beats, int a) {
        int n = heard.size() - a;
        int[][] d = new int[beats.length() + 1][n + 1];
        for (int i = 0; i <= beats.length(); i++) {
            for (int j = 0; j <= n; j++) {
                int least = i == 0 && j == 0 ? 0 : FAR;
                if (i > 0) {
                    least = Math.min(least, d[i - 1][j] + 3);
                }
                if (j > 0) {
                    least = Math.min(least, d[i][j - 1] + 3);
                }
                if (i > 0 && j > 0) {
                    int h = heard.get(a + j - 1);
                    least = Math.min(least, d[i - 1][j - 1] + (h == NONE || h == beats.charAt(i - 1) - '0' ? 0 : 2));
                }
                d[i][j] = least;
            }
        }
        return d[beats.length()];
    }

    int offFrom(List<Integer> row) {
        StringBuilder all = new StringBuilder();
        for (int word : row) {
            all.append(beats(word));
        }
        return offToEachEnd(all.toString(), 0)[heard.size()];
    }

    private List<Integer> speakable() {
        List<Integer> all = new ArrayList<>();
        for (int w = 0; w < words.size(); w++) {
            if (chosen.get(w) != null) {
                all.add(w);
            }
        }
        return all;
    }

    /** The heard is cut into as many parts as there are words; what is too many stands in some part. */
    Reading readByParts() {
        int n = heard.size();
        List<Integer> able = speakable();
        int[][][] part = new int[words.size()][n + 1][];
        for (int w : able) {
            for (int a = 0; a <= n; a++) {
                part[w][a] = offToEachEnd(beats(w), a);
            }
        }
        Reading best = new Reading(3 * n, List.of());
        Reading[] ends = new Reading[n + 1];
        ends[0] = new Reading(0, List.of());
        for (int k = 1; k <= 12; k++) {
            ends = oneWordMore(ends, able, part);
            if (ends[n].off < best.off) {
                best = ends[n];
            }
        }
        return best;
    }

    private static Reading[] oneWordMore(Reading[] ends, List<Integer> able, int[][][] part) {
        Reading[] next = new Reading[ends.length];
        for (int a = 0; a < ends.length; a++) {
            for (int w : able) {
                for (int b = a; b < ends.length && ends[a] != null; b++) {
                    int off = ends[a].off + part[w][a][b - a];
                    if (next[b] == null || off <= next[b].off) {
                        List<Integer> row = new ArrayList<>(ends[a].words);
                        row.add(w);
                        if (next[b] == null || off < next[b].off || byNumbers(row, next[b].words) < 0) {
                            next[b] = new Reading(off, row);
                        }
                    }
                }
            }
        }
        return next;
    }

    /** Every row there is, but those so long that more beats are lost than silence would cost. */
    Reading readByAllRows() {
        Reading[] best = {new Reading(3 * heard.size(), List.of())};
        tryRows(new ArrayList<>(), 0, best);
        return best[0];
    }

    private void tryRows(List<Integer> row, int beats, Reading[] best) {
        int off = offFrom(row);
        Reading b = best[0];
        boolean first = row.size() < b.words.size()
            || row.size() == b.words.size() && byNumbers(row, b.words) < 0;
        if (off < b.off || off == b.off && first) {
            best[0] = new Reading(off, new ArrayList<>(row));
        }
        if (row.size() == 12) {
            return;
        }
        for (int w : speakable()) {
            if (beats + beats(w).length() <= 2 * heard.size()) {
                row.add(w);
                tryRows(row, beats + beats(w).length(), best);
                row.remove(row.size() - 1);
            }
        }
    }

    int read() {
        if (speakable().isEmpty()) {
            return NO;
        }
        Reading now = readByParts();
        last = now.words;
        return now.off;
    }

    int readAt(int i) {
        return i < 0 || i >= last.size() ? NONE : last.get(i);
    }

    int doubt(int i) {
        if (i < 0) {
            return BAD;
        }
        if (speakable().isEmpty()) {
            return NO;
        }
        Reading now = readByParts();
        return i >= now.words.size() ? BAD : doubtIn(now, i);
    }

    private int doubtIn(Reading now, int i) {
        int least = NONE;
        for (int w : speakable()) {
            if (w != now.words.get(i)) {
                List<Integer> other = new ArrayList<>(now.words);
                other.set(i, w);
                int more = offFrom(other) - now.off;
                least = least == NONE || more < least ? more : least;
            }
        }
        return least;
    }

    int most() {
        if (speakable().isEmpty()) {
            return NO;
        }
        Reading now = readByParts();
        if (speakable().size() == 1) {
            return NONE;
        }
        int best = NONE;
        for (int i = now.words.size() - 1; i >= 0; i--) {
            if (best == NONE || doubtIn(now, i) <= doubtIn(now, best)) {
                best = i;
            }
        }
        return best;
    }

    private static boolean pair(int s, int d) {
        return s >= 0 && s < 6 && d >= 0 && d < 6 && s != d;
    }

    int hill(int from, int to, int thousandths, int h) {
        if (!pair(from, to) || thousandths < 0 || thousandths > 1000 || h < 1 || h > 20) {
            return BAD;
        }
        chance[from][to] = thousandths;
        hours[from][to] = h;
        return 1;
    }

    private Way best(int s, int d) {
        List<Way> all = new ArrayList<>();
        listWays(new ArrayList<>(List.of(s)), d, all);
        all.sort(Comparator.<Way>comparingLong(w -> -w.chance).thenComparingInt(w -> w.hours)
            .thenComparing(w -> w.hills, PlainTongue::byNumbers));
        return all.isEmpty() || all.get(0).chance == 0 ? null : all.get(0);
    }

    private void listWays(List<Integer> hills, int d, List<Way> all) {
        int at = hills.get(hills.size() - 1);
        if (at == d) {
            long c = 1000000000;
            int h = 0;
            for (int i = 1; i < hills.size(); i++) {
                c = c * chance[hills.get(i - 1)][hills.get(i)] / 1000;
                h += hours[hills.get(i - 1)][hills.get(i)];
            }
            all.add(new Way(new ArrayList<>(hills), c, h));
            return;
        }
        for (int next = 5; next >= 0; next--) {
            if (!hills.contains(next)) {
                hills.add(next);
                listWays(hills, d, all);
                hills.remove(hills.size() - 1);
            }
        }
    }

    int way(int s, int d) {
        if (!pair(s, d)) {
            return BAD;
        }
        Way w = best(s, d);
        return w == null ? NONE : (int) w.chance;
    }

    int wayAt(int s, int d, int i) {
        if (!pair(s, d)) {
            return BAD;
        }
        Way w = best(s, d);
        return w == null || i < 0 || i >= w.hills.size() ? NONE : w.hills.get(i);
    }

    int age(int s, int d) {
        if (!pair(s, d)) {
            return BAD;
        }
        Way w = best(s, d);
        return w == null ? NONE : w.hours;
    }

    private List<Integer> enoughTimes(int s, int d, int c) {
        Way w = best(s, d);
        if (w == null) {
            return null;
        }
        int steps = w.hills.size() - 1;
        List<Integer> best = null;
        for (int code = 0; code < Math.pow(3, steps); code++) {
            List<Integer> times = new ArrayList<>();
            for (int i = 0, left = code; i < steps; i++, left /= 3) {
                times.add(1 + left % 3);
            }
            if (chanceDrummed(w, times) >= c && (best == null || sum(times) < sum(best)
                || sum(times) == sum(best) && byNumbers(times, best) < 0)) {
                best = times;
            }
        }
        return best;
    }

    private long chanceDrummed(Way w, List<Integer> times) {
        long c = 1000000000;
        for (int i = 0; i < times.size(); i++) {
            long miss = 1000 - chance[w.hills.get(i)][w.hills.get(i + 1)];
            long heardBy = times.get(i) == 1 ? 1000000000 - miss * 1000000
                : times.get(i) == 2 ? 1000000000 - miss * miss * 1000 : 1000000000 - miss * miss * miss;
            c = c * heardBy / 1000000000;
        }
        return c;
    }

    private static int sum(List<Integer> all) {
        int sum = 0;
        for (int v : all) {
            sum += v;
        }
        return sum;
    }

    int enough(int s, int d, int c) {
        if (!pair(s, d) || c < 1 || c > 1000000000) {
            return BAD;
        }
        List<Integer> times = enoughTimes(s, d, c);
        return times == null ? NONE : sum(times);
    }

    int times(int s, int d, int c, int i) {
        if (!pair(s, d) || c < 1 || c > 1000000000) {
            return BAD;
        }
        List<Integer> times = enoughTimes(s, d, c);
        return times == null || i < 0 || i >= times.size() ? NONE : times.get(i);
    }

    int count(int what) {
        int beats = 0;
        int gaps = 0;
        for (int w : speakable()) {
            beats += beats(w).length();
        }
        for (int v : heard) {
            gaps += v == NONE ? 1 : 0;
        }
        int[] all = {words.size(), endings.size(), bound, speakable().size(), beats, heard.size(), gaps, last.size()};
        return what < 0 || what >= all.length ? BAD : all[what];
    }

    long digest() {
        List<Integer> all = new ArrayList<>();
        for (int what = 0; what < 8; what++) {
            all.add(count(what));
        }
        for (int w = 0; w < words.size(); w++) {
            all.add(length(w));
            for (int i = 0; i < beats(w).length(); i++) {
                all.add(beat(w, i));
            }
            all.add(endingAt(w, 0));
            all.add(endingAt(w, 1));
        }
        all.addAll(heard);
        all.addAll(last);
        for (int s = 0; s < 6; s++) {
            for (int d = 0; d < 6; d++) {
                if (s != d) {
                    all.add(chance[s][d]);
                    all.add(hours[s][d]);
                }
            }
        }
        long h = 241;
        for (int v : all) {
            h = 31 * h + v;
        }
        return h;
    }
}
