/** Promises 1 to 10: words, endings, and the phrases chosen for them. */
public final class WordsTest {
    private static final int NONE = DrumTongue.NONE;
    private static final int BAD = DrumTongue.BAD;
    private static final int NO = DrumTongue.NO;
    private static final int FULL = DrumTongue.FULL;
    private static final int SPENT = DrumTongue.SPENT;

    private WordsTest() {
    }

    public static void main(String[] args) {
        aNewObject();
        words();
        endings();
        bounds();
        whatGoesWithANewRow();
        orderOfPhrases();
        chosenInTurn();
        chosenWithABound();
        chosenForTheLeast();
        leastTakesTheFirstOfLikeOnes();
        leastThatIsNot();
        leastThatIsSpent();
        leastAtTheEdgeOfSpent();
        lengthBeatAndEndingAt();
        howFar();
        Checks.finish("WordsTest");
    }

    private static void aNewObject() {
        DrumTongue x = new DrumTongue();
        int[] due = {0, 0, 1, 0, 0, 0, 0, 0};
        for (int what = 0; what < due.length; what++) {
            Checks.due("new: count(" + what + ")", x.count(what), due[what]);
        }
        Checks.due("new: length(0)", x.length(0), BAD);
        Checks.due("new: hush()", x.hush(), 0);
        Checks.due("new: readAt(0)", x.readAt(0), NONE);
        Checks.due("new: way(0, 1)", x.way(0, 1), NONE);
    }

    private static void words() {
        DrumTongue x = new DrumTongue();
        Checks.due("word(1, 0)", x.word(1, 0), 0);
        Checks.due("word(6, 63)", x.word(6, 63), 1);
        Checks.due("word(6, 63) again", x.word(6, 63), 2);
        long before = x.digest();
        int[][] bad = {{0, 0}, {-1, 0}, {7, 0}, {1, 2}, {1, -1}, {3, 8}, {6, 64}, {6, -1},
            {Integer.MAX_VALUE, 0}, {Integer.MIN_VALUE, 0}, {32, 0}, {33, 1}, {6, Integer.MAX_VALUE},
            {6, Integer.MIN_VALUE}};
        for (int[] b : bad) {
            Checks.dueAndNothingChanged(x, before, "word(" + b[0] + ", " + b[1] + ")", x.word(b[0], b[1]), BAD);
        }
        for (int i = 3; i < 10; i++) {
            Checks.due("word " + i, x.word(3, i - 3), i);
        }
        // 0, 111111, 100, 101 and 110; the others begin with 0, or are 111111 again.
        Checks.due("choose()", x.choose(), 5);
        before = x.digest();
        Checks.dueAndNothingChanged(x, before, "word 10", x.word(1, 1), FULL);
        Checks.dueAndNothingChanged(x, before, "bad word when full", x.word(7, 1), BAD);
        Checks.due("words", x.count(0), 10);
    }

    private static void endings() {
        DrumTongue x = new DrumTongue();
        x.word(1, 1);
        Checks.due("ending(1, 1)", x.ending(1, 1), 0);
        Checks.due("ending(6, 0)", x.ending(6, 0), 1);
        long before = x.digest();
        int[][] bad = {{0, 0}, {-3, 0}, {7, 5}, {1, 2}, {2, 4}, {6, 64}, {5, -1},
            {Integer.MAX_VALUE, 0}, {Integer.MIN_VALUE, 0}, {4, Integer.MIN_VALUE}};
        for (int[] b : bad) {
            Checks.dueAndNothingChanged(x, before, "ending(" + b[0] + ", " + b[1] + ")", x.ending(b[0], b[1]), BAD);
        }
        Checks.due("ending 2", x.ending(2, 3), 2);
        Checks.due("ending 3", x.ending(2, 3), 3);
        Checks.due("ending 4", x.ending(3, 0), 4);
        Checks.due("choose()", x.choose(), 1);
        before = x.digest();
        Checks.dueAndNothingChanged(x, before, "ending 5", x.ending(1, 0), FULL);
        Checks.dueAndNothingChanged(x, before, "bad ending when full", x.ending(1, 2), BAD);
        Checks.due("endings", x.count(1), 5);
    }

    private static void bounds() {
        DrumTongue x = new DrumTongue();
        Checks.due("bound(9)", x.bound(9), 1);
        Checks.due("bound(2)", x.bound(2), 9);
        x.word(1, 0);
        x.choose();
        long before = x.digest();
        for (int v : new int[] {0, 10, -1, -2, Integer.MAX_VALUE, Integer.MIN_VALUE}) {
            Checks.dueAndNothingChanged(x, before, "bound(" + v + ")", x.bound(v), BAD);
        }
        Checks.due("bound(1)", x.bound(1), 2);
        Checks.due("bound now", x.count(2), 1);
    }

    /** A new word, ending or bound (a like one, too) takes all phrases, but nothing that was read. */
    private static void whatGoesWithANewRow() {
        DrumTongue x = new DrumTongue();
        x.word(2, 1);
        x.choose();
        x.drum(0);
        x.read();
        x.word(2, 2);
        Checks.due("phrases after word()", x.count(3), 0);
        Checks.due("beats after word()", x.count(4), 0);
        Checks.due("length(0) after word()", x.length(0), NONE);
        Checks.due("read last after word()", x.readAt(0), 0);
        Checks.due("heard after word()", x.count(5), 2);
        x.choose();
        dueHeardAndRead(x, "choose()");
        x.ending(1, 0);
        Checks.due("phrases after ending()", x.count(3), 0);
        dueHeardAndRead(x, "ending()");
        Checks.due("least()", x.least(), 4);
        dueHeardAndRead(x, "least()");
        x.bound(1);
        Checks.due("phrases after bound()", x.count(3), 0);
        Checks.due("drum(0) after bound()", x.drum(0), NO);
        dueHeardAndRead(x, "bound()");
    }

    private static void dueHeardAndRead(DrumTongue x, String after) {
        Checks.due("heard after " + after, x.count(5), 2);
        Checks.due("words read last after " + after, x.count(7), 1);
        Checks.due("the word read last after " + after, x.readAt(0), 0);
    }

    private static void orderOfPhrases() {
        fewerBeatsFirst();
        fewerEndingsFirst();
        endingsByNumbers();
        longPhrases();
    }

    private static void fewerBeatsFirst() {
        DrumTongue x = new DrumTongue();
        x.ending(2, 3);
        x.ending(1, 0);
        x.ending(1, 1);
        x.word(1, 1);
        x.word(1, 0);
        x.word(1, 0);
        x.word(1, 0);
        x.bound(2);
        // 1; 0 is 1 from it, 00 is 2; then 01 is 1 from 00, 011 is 2; behind these none is left.
        Checks.due("choose()", x.choose(), 3);
        dueTail(x, 0, 1, NONE, NONE);
        dueTail(x, 1, 2, 1, NONE);
        dueTail(x, 2, 3, 0, NONE);
        dueTail(x, 3, NONE, NONE, NONE);
    }

    private static void fewerEndingsFirst() {
        DrumTongue x = new DrumTongue();
        x.ending(1, 1);
        x.ending(2, 3);
        x.word(1, 1);
        x.word(1, 0);
        x.bound(3);
        // 011 is 0 and 11, or 0 and 1 and 1.
        Checks.due("choose()", x.choose(), 2);
        dueTail(x, 1, 3, 1, NONE);
    }

    private static void endingsByNumbers() {
        DrumTongue x = new DrumTongue();
        x.ending(2, 2);
        x.ending(2, 1);
        x.word(1, 1);
        x.word(1, 0);
        x.bound(3);
        Checks.due("choose()", x.choose(), 2);
        dueTail(x, 1, 3, 0, NONE);
        // Four phrases of 0 have to be 011, 010, 001, 000: the pairs of endings in their order.
        DrumTongue y = new DrumTongue();
        y.ending(1, 1);
        y.ending(1, 0);
        for (int i = 0; i < 4; i++) {
            y.word(1, 0);
        }
        Checks.due("least()", y.least(), 12);
        dueTail(y, 0, 3, 0, 0);
        dueTail(y, 1, 3, 0, 1);
        dueTail(y, 2, 3, 1, 0);
        dueTail(y, 3, 3, 1, 1);
    }

    private static void longPhrases() {
        DrumTongue x = new DrumTongue();
        x.ending(6, 63);
        x.ending(5, 31);
        x.ending(1, 0);
        x.word(6, 0);
        x.word(6, 1);
        x.bound(9);
        // 1 place, and the beats that 000001 has more: 9 or more with two endings of 5 beats.
        Checks.due("choose()", x.choose(), 2);
        Checks.due("length(0)", x.length(0), 6);
        dueTail(x, 1, 16, 1, 1);
        Checks.due("beat(1, 5)", x.beat(1, 5), 1);
        Checks.due("beat(1, 15)", x.beat(1, 15), 1);
        Checks.due("beat(1, 16)", x.beat(1, 16), NONE);
        Checks.due("far(0, 1)", x.far(0, 1), 11);
        // A beginning is never apart, however many beats more the other one has.
        DrumTongue y = new DrumTongue();
        y.ending(6, 63);
        y.word(6, 0);
        y.word(6, 0);
        Checks.due("y.choose()", y.choose(), 1);
        // The longest phrase: 6 and 6 and 6.
        DrumTongue z = new DrumTongue();
        z.ending(6, 42);
        z.word(1, 0);
        z.word(6, 33);
        z.word(6, 34);
        z.bound(9);
        Checks.due("z.choose()", z.choose(), 2);
        dueTail(z, 1, 12, 0, NONE);
        z.bound(7);
        Checks.due("z.choose() by 7", z.choose(), 3);
        dueTail(z, 1, 12, 0, NONE);
        dueTail(z, 2, 18, 0, 0);
        Checks.due("z.beat(2, 17)", z.beat(2, 17), 0);
        Checks.due("z.beat(2, 16)", z.beat(2, 16), 1);
    }

    private static void dueTail(DrumTongue x, int word, int length, int first, int second) {
        Checks.due("length(" + word + ")", x.length(word), length);
        Checks.due("endingAt(" + word + ", 0)", x.endingAt(word, 0), first);
        Checks.due("endingAt(" + word + ", 1)", x.endingAt(word, 1), second);
    }

    private static void chosenInTurn() {
        DrumTongue x = new DrumTongue();
        Checks.due("choose() of no words", x.choose(), 0);
        x.ending(1, 0);
        x.ending(1, 1);
        x.word(2, 2);
        x.word(1, 1);
        x.word(2, 2);
        x.word(1, 0);
        // 10; 1 begins 10, so 11; word 2 begins like 10 always; 0.
        Checks.due("choose()", x.choose(), 3);
        dueTail(x, 0, 2, NONE, NONE);
        dueTail(x, 1, 2, 1, NONE);
        Checks.due("length(2), passed over", x.length(2), NONE);
        dueTail(x, 3, 1, NONE, NONE);
        Checks.due("choose() again", x.choose(), 3);
        Checks.due("beats", x.count(4), 5);
    }

    private static void chosenWithABound() {
        DrumTongue x = new DrumTongue();
        x.ending(1, 0);
        x.word(2, 0);
        x.word(2, 3);
        x.word(2, 1);
        Checks.due("bound", x.bound(2), 1);
        // 00; 11 is 2 from it; 01 is 1 from each, 010 is 2 from each.
        Checks.due("choose()", x.choose(), 3);
        dueTail(x, 1, 2, NONE, NONE);
        dueTail(x, 2, 3, 0, NONE);
        x.bound(3);
        // 00; 11 is 2, 110 is 3; 01 .. 0100: 1 + 2 from 00, but 0100 from 110: 1 + 1.
        Checks.due("choose() by 3", x.choose(), 2);
        dueTail(x, 1, 3, 0, NONE);
        Checks.due("length(2) by 3", x.length(2), NONE);
    }

    private static void chosenForTheLeast() {
        DrumTongue x = new DrumTongue();
        Checks.due("least() of no words", x.least(), 0);
        x.ending(2, 1);
        x.ending(3, 0);
        x.word(1, 1);
        x.word(1, 1);
        // In turn 1 leaves nothing for the other one; for the least: 101 and 1000.
        Checks.due("choose()", x.choose(), 1);
        Checks.due("least()", x.least(), 7);
        dueTail(x, 0, 3, 0, NONE);
        dueTail(x, 1, 4, 1, NONE);
        Checks.due("phrases", x.count(3), 2);
        Checks.due("beats", x.count(4), 7);
        Checks.due("choose() after least()", x.choose(), 1);
        Checks.due("length(1) after choose()", x.length(1), NONE);
    }

    private static void leastTakesTheFirstOfLikeOnes() {
        DrumTongue x = new DrumTongue();
        x.ending(2, 2);
        x.ending(2, 1);
        x.ending(2, 0);
        x.word(1, 0);
        x.word(1, 0);
        Checks.due("least()", x.least(), 6);
        dueTail(x, 0, 3, 0, NONE);
        dueTail(x, 1, 3, 1, NONE);
    }

    private static void leastThatIsNot() {
        DrumTongue x = new DrumTongue();
        x.word(2, 1);
        x.word(2, 1);
        x.word(1, 1);
        Checks.due("least() ahead of any choice", x.least(), NONE);
        Checks.due("phrases", x.count(3), 0);
        Checks.due("choose()", x.choose(), 2);
        long before = x.digest();
        Checks.dueAndNothingChanged(x, before, "least()", x.least(), NONE);
        Checks.due("length(0) stays", x.length(0), 2);
        Checks.due("length(2) stays", x.length(2), 1);
    }

    private static void leastThatIsSpent() {
        DrumTongue x = new DrumTongue();
        for (int i = 0; i < 5; i++) {
            x.ending(4, 3 * i);
        }
        for (int i = 0; i < 10; i++) {
            x.word(1, 0);
        }
        Checks.due("choose()", x.choose(), 1);
        long before = x.digest();
        Checks.dueAndNothingChanged(x, before, "least()", x.least(), SPENT);
        Checks.due("length(0) stays", x.length(0), 1);
        Checks.dueAndNothingChanged(x, before, "least() again", x.least(), SPENT);
    }

    /** Found by trying: 20000 phrases looked at, or 20001, as PlainTongue counts them, too. */
    private static void leastAtTheEdgeOfSpent() {
        dueLooks(20000, 15, 1, new int[][] {{2, 2, 3, 1}, {1, 3, 4, 1}, {1, 2, 1, 2, 1}, {0, 3, 1, 1, 1}});
        dueLooks(20000, 17, 3, new int[][] {{3, 1, 1, 3, 3}, {2, 0, 1, 3, 4}, {1, 1, 2, 2}, {1, 1, 2, 3}});
        dueLooks(20000, 56, 2, new int[][] {{5, 5}, {3, 6}, {6, 6, 1, 3, 5, 2, 4, 3, 6},
            {9, 27, 1, 0, 28, 0, 3, 4, 43}});
        dueLooks(20001, SPENT, 1, new int[][] {{1, 1, 1, 1}, {0, 0, 0, 0}, {4, 1, 2, 5, 2}, {5, 1, 0, 7, 3}});
        dueLooks(20001, SPENT, 3, new int[][] {{2, 2, 1, 2, 1}, {1, 0, 0, 2, 1}, {4, 2, 4, 4}, {6, 3, 6, 15}});
        dueLooks(20001, SPENT, 1, new int[][] {{3, 1}, {6, 1}, {3, 5, 5, 5, 4, 2}, {3, 14, 22, 30, 2, 1}});
    }

    /** Rows: endings' beats, their numbers, words' beats, their numbers. */
    private static void dueLooks(int looks, int due, int bound, int[][] rows) {
        DrumTongue x = new DrumTongue();
        PlainTongue plain = new PlainTongue();
        for (int i = 0; i < rows[0].length; i++) {
            x.ending(rows[0][i], rows[1][i]);
            plain.ending(rows[0][i], rows[1][i]);
        }
        for (int i = 0; i < rows[2].length; i++) {
            x.word(rows[2][i], rows[3][i]);
            plain.word(rows[2][i], rows[3][i]);
        }
        x.bound(bound);
        plain.bound(bound);
        Checks.due("choose() at the edge", x.choose(), plain.choose());
        Checks.due("least() of " + looks + " looks", x.least(), due);
        Checks.due("plain least() of " + looks + " looks", plain.least(), due);
        Checks.due("plain looks", plain.looks(), looks);
        Checks.due("digest behind least()", x.digest(), plain.digest());
    }

    private static void lengthBeatAndEndingAt() {
        DrumTongue y = new DrumTongue();
        y.ending(2, 2);
        y.ending(1, 1);
        y.word(1, 1);
        y.word(1, 1);
        Checks.due("length ahead of a choice", y.length(0), NONE);
        Checks.due("beat ahead of a choice", y.beat(0, 0), NONE);
        Checks.due("endingAt ahead of a choice", y.endingAt(0, 0), NONE);
        // 1 and 11 begin all others: 110 and 111 are left.
        Checks.due("y.least()", y.least(), 6);
        dueTail(y, 0, 3, 0, NONE);
        dueTail(y, 1, 3, 1, 1);
        int[] beats = {1, 1, 0};
        for (int i = 0; i < beats.length; i++) {
            Checks.due("y.beat(0, " + i + ")", y.beat(0, i), beats[i]);
            Checks.due("y.beat(1, " + i + ")", y.beat(1, i), 1);
        }
        for (int i : new int[] {3, 18, -1, Integer.MAX_VALUE, Integer.MIN_VALUE}) {
            Checks.due("y.beat(0, " + i + ")", y.beat(0, i), NONE);
        }
        for (int i : new int[] {2, 3, -1, Integer.MAX_VALUE, Integer.MIN_VALUE}) {
            Checks.due("y.endingAt(1, " + i + ")", y.endingAt(1, i), NONE);
        }
        for (int word : new int[] {2, 9, 10, -1, Integer.MAX_VALUE, Integer.MIN_VALUE}) {
            Checks.due("y.length(" + word + ")", y.length(word), BAD);
            Checks.due("y.beat(" + word + ", 0)", y.beat(word, 0), BAD);
            Checks.due("y.endingAt(" + word + ", 0)", y.endingAt(word, 0), BAD);
            Checks.due("y.endingAt(" + word + ", -1)", y.endingAt(word, -1), BAD);
        }
    }

    private static void howFar() {
        DrumTongue x = new DrumTongue();
        x.word(6, 42);
        x.word(3, 2);
        x.word(6, 21);
        x.word(6, 48);
        Checks.due("far ahead of a choice", x.far(0, 1), NO);
        Checks.due("far of like ones ahead of a choice", x.far(1, 1), BAD);
        // 010 begins 010101, which is passed over.
        Checks.due("choose()", x.choose(), 3);
        Checks.due("far(0, 1), 101010 and 010", x.far(0, 1), 6);
        Checks.due("far(1, 0)", x.far(1, 0), 6);
        Checks.due("far(0, 3), 101010 and 110000", x.far(0, 3), 3);
        Checks.due("far(3, 1), 110000 and 010", x.far(3, 1), 4);
        Checks.due("far(0, 2)", x.far(0, 2), NO);
        Checks.due("far(2, 0)", x.far(2, 0), NO);
        Checks.due("far(0, 0)", x.far(0, 0), BAD);
        Checks.due("far(2, 2)", x.far(2, 2), BAD);
        Checks.due("far(0, 4)", x.far(0, 4), BAD);
        Checks.due("far(-1, 0)", x.far(-1, 0), BAD);
        Checks.due("far(2, -1)", x.far(2, -1), BAD);
        Checks.due("far(MAX, MIN)", x.far(Integer.MAX_VALUE, Integer.MIN_VALUE), BAD);
    }
}
