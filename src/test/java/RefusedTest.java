import java.util.ArrayList;
import java.util.List;

/**
 * "Refused, changing nothing, the first of: BAD -2 a number is not as told; NO -3 as told; FULL -4; SPENT -5."
 * Each call is refused on each ground that it has, and on two at once where that can be, in objects that are
 * new, busy or full. Its twin is not called; digests have to stay, and at the end both answer alike.
 */
public final class RefusedTest {
    private static final int NONE = DrumTongue.NONE;
    private static final int BAD = DrumTongue.BAD;
    private static final int NO = DrumTongue.NO;
    private static final int FULL = DrumTongue.FULL;
    private static final int SPENT = DrumTongue.SPENT;
    private static final int SURE = 1000000000;
    private static final int MAX = Integer.MAX_VALUE;
    private static final int MIN = Integer.MIN_VALUE;

    private interface Making {
        DrumTongue make();
    }

    private interface Call {
        int on(DrumTongue x);
    }

    private final String state;
    private final DrumTongue x;
    private final DrumTongue twin;
    private final long before;

    private RefusedTest(String state, Making making) {
        this.state = state;
        x = making.make();
        twin = making.make();
        before = x.digest();
    }

    public static void main(String[] args) {
        badAlways(new RefusedTest("new", DrumTongue::new));
        badAlways(new RefusedTest("busy", RefusedTest::busy));
        badAlways(new RefusedTest("full", RefusedTest::full));
        badAlways(new RefusedTest("spent", RefusedTest::spent));
        whenNew(new RefusedTest("new", DrumTongue::new));
        whenBusy(new RefusedTest("busy", RefusedTest::busy));
        whenFull(new RefusedTest("full", RefusedTest::full));
        whenSpent(new RefusedTest("spent", RefusedTest::spent));
        withNoPhrases(new RefusedTest("phrases gone", RefusedTest::phrasesGone));
        withOnePhrase(new RefusedTest("one phrase", RefusedTest::onePhrase));
        Checks.finish("RefusedTest");
    }

    /** Phrases 1, 01, none and none; heard 1 ? 1, read as words 0 and 1; one more heard. */
    private static DrumTongue busy() {
        DrumTongue x = new DrumTongue();
        x.ending(1, 1);
        x.ending(1, 0);
        x.word(1, 1);
        x.word(1, 0);
        x.word(1, 1);
        x.word(1, 1);
        x.bound(2);
        x.choose();
        x.drum(0);
        x.drum(1);
        x.slip(1, NONE);
        x.read();
        x.hear(0);
        x.hill(0, 1, 900, 2);
        x.hill(1, 2, 800, 3);
        x.hill(3, 2, 7, 20);
        return x;
    }

    /** Ten words of four beats, five endings, sixty beats heard and read. */
    private static DrumTongue full() {
        DrumTongue x = new DrumTongue();
        for (int i = 0; i < 5; i++) {
            x.ending(2, i % 4);
        }
        for (int i = 0; i < 10; i++) {
            x.word(4, i % 9);
        }
        x.choose();
        for (int i = 0; i < 15; i++) {
            x.drum(i % 9);
        }
        x.slip(7, NONE);
        x.read();
        for (int i = 0; i < 5; i++) {
            x.hill(i, i + 1, 990, i + 1);
        }
        return x;
    }

    /** Words with phrases in turn, for which the least row is not found. */
    private static DrumTongue spent() {
        DrumTongue x = new DrumTongue();
        for (int i = 0; i < 5; i++) {
            x.ending(4, 3 * i);
        }
        for (int i = 0; i < 9; i++) {
            x.word(1, 0);
        }
        x.word(1, 1);
        x.choose();
        x.drum(9);
        x.read();
        return x;
    }

    private static DrumTongue phrasesGone() {
        DrumTongue x = busy();
        x.bound(2);
        return x;
    }

    private static DrumTongue onePhrase() {
        DrumTongue x = new DrumTongue();
        x.word(2, 1);
        x.word(2, 1);
        x.choose();
        x.drum(0);
        x.drum(0);
        return x;
    }

    private void refused(String call, int due, Call c) {
        Checks.due(state + ": " + call, c.on(x), due);
        Checks.due(state + ": digest behind " + call, x.digest(), before);
    }

    /** What the digest does not show (words and endings themselves, what a search left behind) shows here. */
    private void finish() {
        List<Long> got = followed(x);
        List<Long> due = followed(twin);
        Checks.due(state + ": answers behind", got.size(), due.size());
        for (int i = 0; i < due.size(); i++) {
            Checks.due(state + ": answer " + i + " behind", got.get(i), due.get(i));
        }
    }

    private static List<Long> followed(DrumTongue x) {
        List<Long> all = new ArrayList<>();
        tell(x, all);
        all.add((long) x.least());
        tell(x, all);
        all.add((long) x.choose());
        tell(x, all);
        all.add((long) x.ending(1, 1));
        all.add((long) x.word(2, 2));
        all.add((long) x.bound(1));
        all.add((long) x.choose());
        all.add((long) x.hear(1));
        all.add((long) x.drum(0));
        all.add((long) x.slip(0, 2));
        all.add((long) x.hill(0, 1, 950, 1));
        tell(x, all);
        return all;
    }

    private static void tell(DrumTongue x, List<Long> all) {
        for (int i = 0; i < 10; i++) {
            all.add((long) x.length(i));
            all.add((long) x.far(i, (i + 1) % 10));
            all.add((long) x.doubt(i));
            all.add((long) x.readAt(i));
        }
        for (int d = 1; d < 6; d++) {
            all.add((long) x.way(0, d));
            all.add((long) x.wayAt(0, d, 1));
            all.add((long) x.age(0, d));
            all.add((long) x.enough(0, d, 910000000));
            all.add((long) x.times(0, d, 910000000, 0));
        }
        all.add((long) x.most());
        all.add(x.digest());
        all.add((long) x.read());
        all.add(x.digest());
    }

    /** What is no number as told in any state, ahead of NO and FULL. */
    private static void badAlways(RefusedTest t) {
        int[][] noRows = {{0, 0}, {7, 0}, {-1, 0}, {33, 0}, {1, 2}, {3, 8}, {6, 64}, {4, -1}, {MAX, MAX}, {MIN, MIN}};
        for (int[] r : noRows) {
            t.refused("word(" + r[0] + ", " + r[1] + ")", BAD, x -> x.word(r[0], r[1]));
            t.refused("ending(" + r[0] + ", " + r[1] + ")", BAD, x -> x.ending(r[0], r[1]));
        }
        for (int v : new int[] {0, 10, -1, MAX, MIN}) {
            t.refused("bound(" + v + ")", BAD, x -> x.bound(v));
        }
        for (int word : new int[] {-1, 10, 11, -10, MAX, MIN}) {
            t.refused("length(" + word + ")", BAD, x -> x.length(word));
            t.refused("beat(" + word + ", 0)", BAD, x -> x.beat(word, 0));
            t.refused("beat(" + word + ", -1)", BAD, x -> x.beat(word, -1));
            t.refused("beat(" + word + ", MAX)", BAD, x -> x.beat(word, MAX));
            t.refused("endingAt(" + word + ", 0)", BAD, x -> x.endingAt(word, 0));
            t.refused("endingAt(" + word + ", 2)", BAD, x -> x.endingAt(word, 2));
            t.refused("far(" + word + ", 0)", BAD, x -> x.far(word, 0));
            t.refused("far(0, " + word + ")", BAD, x -> x.far(0, word));
            t.refused("far(" + word + ", " + word + ")", BAD, x -> x.far(word, word));
            t.refused("drum(" + word + ")", BAD, x -> x.drum(word));
        }
        for (int i = 0; i < 10; i++) {
            int word = i;
            t.refused("far(" + i + ", " + i + ")", BAD, x -> x.far(word, word));
        }
        heardBadAlways(t);
        hillsBadAlways(t);
        t.finish();
    }

    private static void heardBadAlways(RefusedTest t) {
        for (int v : new int[] {2, -2, 3, -100, MAX, MIN}) {
            t.refused("hear(" + v + ")", BAD, x -> x.hear(v));
        }
        for (int v : new int[] {3, -2, -100, MAX, MIN}) {
            for (int i : new int[] {0, 1, 59, 60, -1}) {
                t.refused("slip(" + i + ", " + v + ")", -100, x -> x.slip(i, v));
            }
        }
        for (int i : new int[] {60, 61, -1, -100, MAX, MIN}) {
            for (int v : new int[] {NONE, 0, 1, 2}) {
                t.refused("slip(" + i + ", " + v + ")", -100, x -> x.slip(i, v));
            }
        }
        for (int i : new int[] {-1, -2, -12, MIN}) {
            t.refused("doubt(" + i + ")", BAD, x -> x.doubt(i));
        }
        for (int what : new int[] {8, 9, -1, MAX, MIN}) {
            t.refused("count(" + what + ")", BAD, x -> x.count(what));
        }
        for (int i : new int[] {12, 13, 60, -1, MAX, MIN}) {
            t.refused("readAt(" + i + ")", NONE, x -> x.readAt(i));
        }
    }

    private static void hillsBadAlways(RefusedTest t) {
        int[][] noPairs = {{0, 0}, {3, 3}, {5, 5}, {6, 0}, {0, 6}, {-1, 0}, {0, -1}, {6, 6}, {-1, -1}, {MAX, 1}, {1, MIN}};
        for (int[] p : noPairs) {
            String pair = "(" + p[0] + ", " + p[1] + ")";
            t.refused("hill" + pair, BAD, x -> x.hill(p[0], p[1], 500, 5));
            t.refused("way" + pair, BAD, x -> x.way(p[0], p[1]));
            t.refused("wayAt" + pair, BAD, x -> x.wayAt(p[0], p[1], 0));
            t.refused("wayAt" + pair + " MAX", BAD, x -> x.wayAt(p[0], p[1], MAX));
            t.refused("age" + pair, BAD, x -> x.age(p[0], p[1]));
            t.refused("enough" + pair, BAD, x -> x.enough(p[0], p[1], 1));
            t.refused("times" + pair, BAD, x -> x.times(p[0], p[1], 1, 0));
            t.refused("times" + pair + " MAX", BAD, x -> x.times(p[0], p[1], 1, MAX));
        }
        int[][] noSteps = {{-1, 5}, {1001, 5}, {500, 0}, {500, 21}, {500, -1}, {1001, 21}, {MAX, 1}, {MIN, 1}, {0, MAX}, {0, MIN}};
        for (int[] s : noSteps) {
            t.refused("hill(0, 1, " + s[0] + ", " + s[1] + ")", BAD, x -> x.hill(0, 1, s[0], s[1]));
            t.refused("hill(5, 0, " + s[0] + ", " + s[1] + ")", BAD, x -> x.hill(5, 0, s[0], s[1]));
        }
        for (int c : new int[] {0, -1, SURE + 1, MAX, MIN}) {
            for (int d = 1; d < 6; d++) {
                int to = d;
                t.refused("enough(0, " + d + ", " + c + ")", BAD, x -> x.enough(0, to, c));
                t.refused("times(0, " + d + ", " + c + ", 0)", BAD, x -> x.times(0, to, c, 0));
            }
        }
    }

    private static void whenNew(RefusedTest t) {
        t.refused("length(0)", BAD, x -> x.length(0));
        t.refused("beat(0, 0)", BAD, x -> x.beat(0, 0));
        t.refused("endingAt(0, 0)", BAD, x -> x.endingAt(0, 0));
        t.refused("far(0, 1)", BAD, x -> x.far(0, 1));
        t.refused("drum(0)", BAD, x -> x.drum(0));
        t.refused("slip(0, 0)", -100, x -> x.slip(0, 0));
        t.refused("slip(0, 2)", -100, x -> x.slip(0, 2));
        t.refused("read()", NO, DrumTongue::read);
        t.refused("readAt(0)", NONE, x -> x.readAt(0));
        t.refused("doubt(0)", NO, x -> x.doubt(0));
        t.refused("doubt(MAX)", NO, x -> x.doubt(MAX));
        t.refused("most()", NO, DrumTongue::most);
        t.refused("way(0, 1)", NONE, x -> x.way(0, 1));
        t.refused("wayAt(0, 1, 0)", NONE, x -> x.wayAt(0, 1, 0));
        t.refused("age(0, 1)", NONE, x -> x.age(0, 1));
        t.refused("enough(0, 1, 1)", NONE, x -> x.enough(0, 1, 1));
        t.refused("times(0, 1, 1, 0)", NONE, x -> x.times(0, 1, 1, 0));
        t.refused("choose()", 0, DrumTongue::choose);
        t.refused("least()", 0, DrumTongue::least);
        t.refused("hush()", 0, DrumTongue::hush);
        t.finish();
    }

    private static void whenBusy(RefusedTest t) {
        for (int none = 2; none < 4; none++) {
            int word = none;
            t.refused("length(" + word + ")", NONE, x -> x.length(word));
            t.refused("beat(" + word + ", 0)", NONE, x -> x.beat(word, 0));
            t.refused("endingAt(" + word + ", 0)", NONE, x -> x.endingAt(word, 0));
            t.refused("far(0, " + word + ")", NO, x -> x.far(0, word));
            t.refused("far(" + word + ", 1)", NO, x -> x.far(word, 1));
            t.refused("drum(" + word + ")", NO, x -> x.drum(word));
        }
        t.refused("far(2, 3)", NO, x -> x.far(2, 3));
        t.refused("far(2, 4)", BAD, x -> x.far(2, 4));
        t.refused("length(4)", BAD, x -> x.length(4));
        t.refused("drum(4)", BAD, x -> x.drum(4));
        t.refused("beat(1, 2)", NONE, x -> x.beat(1, 2));
        t.refused("beat(1, -1)", NONE, x -> x.beat(1, -1));
        t.refused("endingAt(1, 1)", NONE, x -> x.endingAt(1, 1));
        t.refused("endingAt(1, -1)", NONE, x -> x.endingAt(1, -1));
        // Of 1, 11, 10 and so on no three are 2 apart.
        t.refused("least()", NONE, DrumTongue::least);
        t.refused("slip(4, 0)", -100, x -> x.slip(4, 0));
        t.refused("slip(4, 2)", -100, x -> x.slip(4, 2));
        t.refused("readAt(2)", NONE, x -> x.readAt(2));
        t.refused("doubt(3)", BAD, x -> x.doubt(3));
        t.refused("doubt(MAX)", BAD, x -> x.doubt(MAX));
        t.refused("way(2, 0)", NONE, x -> x.way(2, 0));
        t.refused("wayAt(0, 2, 3)", NONE, x -> x.wayAt(0, 2, 3));
        t.refused("wayAt(0, 2, -1)", NONE, x -> x.wayAt(0, 2, -1));
        t.refused("age(2, 0)", NONE, x -> x.age(2, 0));
        t.refused("enough(0, 2, SURE)", NONE, x -> x.enough(0, 2, SURE));
        t.refused("times(0, 2, SURE, 0)", NONE, x -> x.times(0, 2, SURE, 0));
        t.refused("times(0, 2, 1, 2)", NONE, x -> x.times(0, 2, 1, 2));
        t.refused("times(0, 2, 1, -1)", NONE, x -> x.times(0, 2, 1, -1));
        t.finish();
    }

    private static void whenFull(RefusedTest t) {
        t.refused("word(1, 1)", FULL, x -> x.word(1, 1));
        t.refused("word(6, 0)", FULL, x -> x.word(6, 0));
        t.refused("ending(1, 1)", FULL, x -> x.ending(1, 1));
        t.refused("ending(6, 63)", FULL, x -> x.ending(6, 63));
        t.refused("hear(0)", FULL, x -> x.hear(0));
        t.refused("hear(1)", FULL, x -> x.hear(1));
        t.refused("hear(NONE)", FULL, x -> x.hear(NONE));
        t.refused("drum(0)", FULL, x -> x.drum(0));
        t.refused("drum(8)", FULL, x -> x.drum(8));
        // Word 9 is word 0 again: no phrase, and no room.
        t.refused("drum(9)", NO, x -> x.drum(9));
        t.refused("length(9)", NONE, x -> x.length(9));
        t.refused("far(9, 0)", NO, x -> x.far(9, 0));
        t.refused("doubt(12)", BAD, x -> x.doubt(12));
        t.refused("readAt(12)", NONE, x -> x.readAt(12));
        t.refused("wayAt(0, 5, 6)", NONE, x -> x.wayAt(0, 5, 6));
        t.refused("times(0, 5, 1, 5)", NONE, x -> x.times(0, 5, 1, 5));
        t.finish();
    }

    private static void whenSpent(RefusedTest t) {
        t.refused("least()", SPENT, DrumTongue::least);
        t.refused("least() again", SPENT, DrumTongue::least);
        t.refused("drum(1)", NO, x -> x.drum(1));
        t.refused("far(1, 9)", NO, x -> x.far(1, 9));
        t.refused("doubt(1)", BAD, x -> x.doubt(1));
        t.finish();
    }

    private static void withNoPhrases(RefusedTest t) {
        for (int i = 0; i < 4; i++) {
            int word = i;
            t.refused("length(" + i + ")", NONE, x -> x.length(word));
            t.refused("beat(" + i + ", 0)", NONE, x -> x.beat(word, 0));
            t.refused("endingAt(" + i + ", 0)", NONE, x -> x.endingAt(word, 0));
            t.refused("far(" + i + ", next)", NO, x -> x.far(word, (word + 1) % 4));
            t.refused("drum(" + i + ")", NO, x -> x.drum(word));
        }
        t.refused("read()", NO, DrumTongue::read);
        t.refused("most()", NO, DrumTongue::most);
        for (int i : new int[] {0, 1, 2, 11, 12, 59, 60, MAX}) {
            t.refused("doubt(" + i + ")", NO, x -> x.doubt(i));
        }
        t.refused("least()", NONE, DrumTongue::least);
        t.finish();
    }

    private static void withOnePhrase(RefusedTest t) {
        t.refused("doubt(0)", NONE, x -> x.doubt(0));
        t.refused("doubt(1)", NONE, x -> x.doubt(1));
        t.refused("doubt(2)", BAD, x -> x.doubt(2));
        t.refused("most()", NONE, DrumTongue::most);
        t.refused("least()", NONE, DrumTongue::least);
        t.finish();
    }
}
