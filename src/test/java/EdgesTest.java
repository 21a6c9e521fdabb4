/**
 * Each sentence of the document that names a boundary (too small, too large, empty, full, exactly as
 * many, a first of like ones), in the document's order; the sentence stands above its test.
 */
public final class EdgesTest {
    private static final int NONE = DrumTongue.NONE;
    private static final int BAD = DrumTongue.BAD;
    private static final int NO = DrumTongue.NO;
    private static final int FULL = DrumTongue.FULL;
    private static final int SPENT = DrumTongue.SPENT;
    private static final int SURE = 1000000000;
    private static final int MAX = Integer.MAX_VALUE;
    private static final int MIN = Integer.MIN_VALUE;

    private EdgesTest() {
    }

    public static void main(String[] args) {
        firstBeatIsHighest();
        lastOfThe512Calls();
        rowsOfOneToSixBeats();
        wordsAndEndingsAsTheyCome();
        noneOneOrTwoEndings();
        phrasesByBeatsThenEndingsThenNumbers();
        howFar();
        asFarOrFurther();
        neitherIsABeginning();
        passedOver();
        leastOfAllRows();
        leastStartsAnewEachTime();
        spentLeavesWhatWasChosen();
        messageOfTwelve();
        heardOfSixty();
        offByEach();
        readTheFewestThenTheFirst();
        doubtsOfTwelve();
        doubtOfTheBestOther();
        hillsAtFirst();
        hillsByThirty();
        bestWay();
        wayOfSixHills();
        enoughOfFiveSteps();
        enoughAtTheEdgesOfC();
        counts();
        digestWrapsAround();
        Checks.finish("EdgesTest");
    }

    private static DrumTongue tongue(int bound, int[][] endings, int[][] words) {
        DrumTongue x = new DrumTongue();
        for (int[] e : endings) {
            x.ending(e[0], e[1]);
        }
        for (int[] w : words) {
            x.word(w[0], w[1]);
        }
        x.bound(bound);
        return x;
    }

    private static DrumTongue chosen(int due, int bound, int[][] endings, int[][] words) {
        DrumTongue x = tongue(bound, endings, words);
        Checks.due("choose() of " + words.length + " words by " + bound, x.choose(), due);
        return x;
    }

    private static void duePhrase(DrumTongue x, int word, String beats, int first, int second) {
        Checks.due("length(" + word + ")", x.length(word), beats.length());
        for (int i = 0; i < beats.length(); i++) {
            Checks.due("beat(" + word + ", " + i + ")", x.beat(word, i), beats.charAt(i) - '0');
        }
        Checks.due("beat behind the last of " + word, x.beat(word, beats.length()), NONE);
        Checks.due("endingAt(" + word + ", 0)", x.endingAt(word, 0), first);
        Checks.due("endingAt(" + word + ", 1)", x.endingAt(word, 1), second);
        Checks.due("endingAt(" + word + ", 2)", x.endingAt(word, 2), NONE);
    }

    private static void duePassedOver(DrumTongue x, int word) {
        Checks.due("length(" + word + "), passed over", x.length(word), NONE);
        Checks.due("beat(" + word + ", 0), passed over", x.beat(word, 0), NONE);
        Checks.due("endingAt(" + word + ", 0), passed over", x.endingAt(word, 0), NONE);
        Checks.due("drum(" + word + "), passed over", x.drum(word), NO);
    }

    private static void hearAll(DrumTongue x, String row) {
        x.hush();
        for (char c : row.toCharArray()) {
            x.hear(c == '?' ? NONE : c - '0');
        }
    }

    private static void dueRead(DrumTongue x, String row, int off, int... words) {
        hearAll(x, row);
        dueReadNow(x, row, off, words);
    }

    private static void dueReadNow(DrumTongue x, String row, int off, int... words) {
        Checks.due("read() of " + row, x.read(), off);
        Checks.due("words of " + row, x.count(7), words.length);
        for (int i = 0; i < words.length; i++) {
            Checks.due("readAt(" + i + ") of " + row, x.readAt(i), words[i]);
        }
        Checks.due("readAt behind " + row, x.readAt(words.length), NONE);
    }

    // "A ROW of BEATS .. is told by n (how many) and a number, its bits being the BEATS, the first one highest."
    private static void firstBeatIsHighest() {
        DrumTongue x = chosen(4, 1, new int[][] {}, new int[][] {{6, 32}, {6, 1}, {3, 6}, {2, 1}});
        duePhrase(x, 0, "100000", NONE, NONE);
        duePhrase(x, 1, "000001", NONE, NONE);
        duePhrase(x, 2, "110", NONE, NONE);
        duePhrase(x, 3, "01", NONE, NONE);
    }

    // "An object is used for at most 512 calls after it has been made": the last of them is as the first.
    private static void lastOfThe512Calls() {
        DrumTongue x = new DrumTongue();
        x.word(1, 1);
        x.choose();
        for (int call = 3; call < 511; call++) {
            Checks.due("call " + call, call % 2 == 0 ? x.hush() : x.drum(0), 1);
        }
        Checks.due("call 511", x.drum(0), 1);
        Checks.due("call 512", x.read(), 0);
    }

    // "WORDS 0 .. 9, as they come, and ENDINGS 0 .. 4, as they come, are ROWS of 1 .. 6 BEATS." and
    // "BAD: also bits that are not n BEATS"
    private static void rowsOfOneToSixBeats() {
        for (int n = 1; n <= 6; n++) {
            DrumTongue x = new DrumTongue();
            int above = 1 << n;
            for (int bits : new int[] {above, above + 1, 2 * above, -1, -above, MAX, MIN}) {
                Checks.due("word(" + n + ", " + bits + ")", x.word(n, bits), BAD);
                Checks.due("ending(" + n + ", " + bits + ")", x.ending(n, bits), BAD);
            }
            Checks.due("word(" + n + ", 0)", x.word(n, 0), 0);
            Checks.due("word(" + n + ", all 1)", x.word(n, above - 1), 1);
            Checks.due("ending(" + n + ", 0)", x.ending(n, 0), 0);
            Checks.due("ending(" + n + ", all 1)", x.ending(n, above - 1), 1);
        }
        DrumTongue y = new DrumTongue();
        // 32 and 33 shift an int as 0 and 1 do.
        for (int n : new int[] {0, -1, 7, 8, 31, 32, 33, 38, 64, -31, MAX, MIN}) {
            for (int bits : new int[] {0, 1, 63, -1}) {
                Checks.due("word(" + n + ", " + bits + ")", y.word(n, bits), BAD);
                Checks.due("ending(" + n + ", " + bits + ")", y.ending(n, bits), BAD);
            }
        }
        Checks.due("words behind bad ones", y.count(0), 0);
        Checks.due("endings behind bad ones", y.count(1), 0);
    }

    // "WORDS 0 .. 9, as they come, and ENDINGS 0 .. 4, as they come": "FULL: 10.", "FULL: 5."
    private static void wordsAndEndingsAsTheyCome() {
        DrumTongue x = new DrumTongue();
        for (int i = 0; i < 5; i++) {
            Checks.due("ending " + i, x.ending(2, 1), i);
        }
        for (int i = 0; i < 10; i++) {
            Checks.due("word " + i, x.word(4, i), i);
        }
        for (int again = 0; again < 3; again++) {
            Checks.due("word 10", x.word(4, 10), FULL);
            Checks.due("ending 5", x.ending(2, 2), FULL);
            Checks.due("no word when full", x.word(0, 0), BAD);
            Checks.due("no ending when full", x.ending(2, 4), BAD);
        }
        Checks.due("words", x.count(0), 10);
        Checks.due("endings", x.count(1), 5);
        Checks.due("choose() of ten", x.choose(), 10);
        duePhrase(x, 9, "1001", NONE, NONE);
        Checks.due("length(10)", x.length(10), BAD);
    }

    // "A PHRASE of a WORD: its BEATS, and behind them those of 0 to 2 ENDINGS (perhaps the same one twice)."
    private static void noneOneOrTwoEndings() {
        int[][] ending = {{1, 1}};
        int[][] words = {{1, 1}, {1, 0}};
        duePhrase(chosen(2, 1, ending, words), 1, "0", NONE, NONE);
        duePhrase(chosen(2, 2, ending, words), 1, "01", 0, NONE);
        duePhrase(chosen(2, 3, ending, words), 1, "011", 0, 0);
        // By 4 it had to be 0111, with three.
        duePassedOver(chosen(1, 4, ending, words), 1);
        Checks.due("least() by 4", tongue(4, ending, words).least(), NONE);
        // With no ENDINGS a WORD has one PHRASE.
        duePassedOver(chosen(1, 2, new int[][] {}, words), 1);
    }

    // "PHRASES of a WORD are in order by how many BEATS, of like ones by how many ENDINGS, then by numbers
    // of ENDINGS."
    private static void phrasesByBeatsThenEndingsThenNumbers() {
        int[][] words = {{1, 1}, {1, 0}};
        // Four beats more are asked for: 0 and 2, 1 and 1, 2 and 0 have them.
        int[][] oneTwoThree = {{1, 0}, {2, 1}, {3, 2}};
        duePhrase(chosen(2, 5, oneTwoThree, words), 1, "00010", 0, 2);
        int[][] twoOneThree = {{2, 1}, {1, 0}, {3, 2}};
        duePhrase(chosen(2, 5, twoOneThree, words), 1, "00101", 0, 0);
        int[][] threeOne = {{3, 2}, {1, 0}};
        duePhrase(chosen(2, 5, threeOne, words), 1, "00100", 0, 1);
        // One ending of four beats goes ahead of two of them, whatever their numbers.
        int[][] oneTwoThreeFour = {{1, 0}, {2, 1}, {3, 2}, {4, 6}};
        duePhrase(chosen(2, 5, oneTwoThreeFour, words), 1, "00110", 3, NONE);
        // Of single ones the first number, though a later one is as short.
        int[][] fourFour = {{5, 9}, {4, 9}, {4, 6}};
        duePhrase(chosen(2, 5, fourFour, words), 1, "01001", 1, NONE);
        // Two endings of fewer beats go ahead of one of more.
        int[][] sixThreeTwo = {{6, 9}, {3, 2}, {2, 1}};
        duePhrase(chosen(2, 5, sixThreeTwo, words), 1, "00101", 2, 2);
    }

    // "HOW FAR two ROWS are apart: at how many places they differ, and how many BEATS the longer one has more."
    private static void howFar() {
        DrumTongue x = chosen(4, 1, new int[][] {}, new int[][] {{6, 63}, {6, 62}, {6, 0}, {1, 0}, {2, 2}});
        // 0 begins 000000: it is passed over.
        duePassedOver(x, 3);
        Checks.due("far of one place", x.far(0, 1), 1);
        Checks.due("far of all places", x.far(0, 2), 6);
        Checks.due("far of five", x.far(2, 1), 5);
        Checks.due("far of 10 and 111111", x.far(4, 0), 1 + 4);
        Checks.due("far of 000000 and 10", x.far(2, 4), 1 + 4);
        Checks.due("far of none and one", x.far(3, 0), NO);
        Checks.due("far of one and none", x.far(0, 3), NO);
        Checks.due("far of none and none", x.far(3, 3), BAD);
        Checks.due("far of no word", x.far(3, 5), BAD);
        // The furthest: 1 beat, and 18 of which the first one differs.
        DrumTongue y = tongue(1, new int[][] {{6, 0}, {5, 0}, {4, 0}}, new int[][] {{1, 1}, {6, 0}});
        y.bound(9);
        Checks.due("choose() by 9", y.choose(), 2);
        Checks.due("far of 1 and 0000000000", y.far(0, 1), 1 + 9);
        Checks.due("length of it", y.length(1), 10);
    }

    // "Two PHRASES are APART by a BOUND (1 .. 9; 1 at first) if they are as far or further"
    private static void asFarOrFurther() {
        DrumTongue x = new DrumTongue();
        Checks.due("bound at first", x.count(2), 1);
        x.word(6, 0);
        x.word(6, 1);
        Checks.due("choose() by 1", x.choose(), 2);
        for (int differing = 1; differing <= 6; differing++) {
            int[][] words = {{6, 0}, {6, (1 << differing) - 1}};
            chosen(2, differing, new int[][] {}, words);
            chosen(1, differing + 1, new int[][] {}, words);
            Checks.due("least() by " + differing, tongue(differing, new int[][] {}, words).least(), 12);
            Checks.due("least() by one more", tongue(differing + 1, new int[][] {}, words).least(), NONE);
        }
        // 1 and eight beats more are 9, 1 and seven are 8.
        int[][] words = {{1, 1}, {1, 0}};
        duePhrase(chosen(2, 9, new int[][] {{4, 0}}, words), 1, "000000000", 0, 0);
        duePassedOver(chosen(1, 9, new int[][] {{4, 0}, {3, 7}}, new int[][] {{2, 2}, {1, 0}}), 1);
        for (int v = 1; v <= 9; v++) {
            Checks.due("bound(" + v + ")", x.bound(v), v == 1 ? 1 : v - 1);
        }
        for (int v : new int[] {0, 10, -1, 11, MAX, MIN}) {
            Checks.due("bound(" + v + ")", x.bound(v), BAD);
        }
        Checks.due("bound at last", x.count(2), 9);
    }

    // ".. and neither is a beginning of the other one."
    private static void neitherIsABeginning() {
        int[][] none = {};
        duePassedOver(chosen(1, 1, none, new int[][] {{2, 1}, {2, 1}}), 1);
        duePassedOver(chosen(1, 1, none, new int[][] {{1, 0}, {6, 31}}), 1);
        duePassedOver(chosen(1, 1, none, new int[][] {{6, 31}, {1, 0}}), 1);
        chosen(2, 1, none, new int[][] {{6, 31}, {1, 1}});
        // An end, or a part of the middle, is no beginning.
        chosen(2, 1, none, new int[][] {{3, 1}, {1, 1}});
        chosen(2, 1, none, new int[][] {{3, 2}, {1, 1}});
        // As far as any bound asks: 000000 and 6 or 12 beats more.
        for (int v = 1; v <= 9; v++) {
            duePassedOver(chosen(1, v, new int[][] {{6, 63}}, new int[][] {{6, 0}, {6, 0}}), 1);
        }
    }

    // "WORD by WORD the first PHRASE that is APART from those CHOSEN for all ahead; NONE if there is none
    // (such a WORD is passed over)."
    private static void passedOver() {
        // No words: none have phrases.
        chosen(0, 1, new int[][] {}, new int[][] {});
        chosen(0, 1, new int[][] {{1, 1}}, new int[][] {});
        // 1; 1, 11, 111 are passed over; 0 is as if they were not there, and 01 has 0 ahead of it.
        DrumTongue x = chosen(2, 1, new int[][] {{1, 1}}, new int[][] {{1, 1}, {1, 1}, {1, 0}, {2, 1}});
        duePhrase(x, 0, "1", NONE, NONE);
        duePassedOver(x, 1);
        duePhrase(x, 2, "0", NONE, NONE);
        duePassedOver(x, 3);
        Checks.due("words with phrases", x.count(3), 2);
        Checks.due("beats of all phrases", x.count(4), 2);
        // What was chosen before counts no more.
        Checks.due("choose() again", x.choose(), 2);
    }

    // "of all rows of PHRASES of all WORDS, each two of which are APART, that with the fewest BEATS together,
    // of like ones the first by WORDS (PHRASES in their order)."
    private static void leastOfAllRows() {
        int[][] none = {};
        Checks.due("least() of no words", tongue(1, none, none).least(), 0);
        Checks.due("least() of one word", tongue(9, none, new int[][] {{1, 0}}).least(), 1);
        // In turn 1 leaves nothing for 10; for the least 11 goes with it.
        DrumTongue x = chosen(1, 1, new int[][] {{1, 1}}, new int[][] {{1, 1}, {2, 2}});
        Checks.due("least() of 1 and 10", x.least(), 4);
        duePhrase(x, 0, "11", 0, NONE);
        duePhrase(x, 1, "10", NONE, NONE);
        // 10 and 11, or 11 and 10: the first word has the earlier phrase.
        DrumTongue y = tongue(1, new int[][] {{1, 0}, {1, 1}}, new int[][] {{1, 1}, {1, 1}});
        Checks.due("least() of 1 and 1", y.least(), 4);
        duePhrase(y, 0, "10", 0, NONE);
        duePhrase(y, 1, "11", 1, NONE);
        // One word that can not be apart takes the row from all: NONE, and what was chosen stays.
        DrumTongue z = chosen(2, 1, none, new int[][] {{2, 1}, {2, 2}, {2, 1}});
        long before = z.digest();
        Checks.dueAndNothingChanged(z, before, "least() of no row", z.least(), NONE);
        duePhrase(z, 1, "10", NONE, NONE);
        duePassedOver(z, 2);
    }

    private static final int[][] SPENT_ENDINGS = {{1, 0}, {1, 0}, {1, 0}, {1, 0}};
    private static final int[][] SPENT_WORDS = {{4, 5}, {1, 1}, {2, 0}, {5, 7}, {2, 3}};
    private static final int[][] EDGE_ENDINGS = {{2, 1}, {2, 3}, {3, 4}, {1, 1}};
    private static final int[][] EDGE_WORDS = {{1, 0}, {2, 3}, {1, 1}, {2, 1}, {1, 1}};

    // "SPENT above 20000 PHRASES looked at": of each search for itself.
    private static void leastStartsAnewEachTime() {
        DrumTongue x = tongue(1, EDGE_ENDINGS, EDGE_WORDS);
        for (int i = 0; i < 4; i++) {
            Checks.due("least() of 20000 looks, time " + i, x.least(), 15);
        }
        DrumTongue y = tongue(1, SPENT_ENDINGS, SPENT_WORDS);
        for (int i = 0; i < 3; i++) {
            Checks.due("least() of 20001 looks, time " + i, y.least(), SPENT);
        }
        x.word(1, 0);
        Checks.due("least() of one word more", x.least(), SPENT);
        Checks.due("least() of one word more, again", x.least(), SPENT);
        // No phrase here has more than 8 beats, so no two are 9 apart: some 460 looks tell it.
        x.bound(9);
        Checks.due("least() behind SPENT", x.least(), NONE);
    }

    // "SPENT. (What was CHOSEN stays then.)": though a whole row had been found ahead of it.
    private static void spentLeavesWhatWasChosen() {
        DrumTongue x = tongue(1, SPENT_ENDINGS, SPENT_WORDS);
        PlainTongue plain = new PlainTongue();
        for (int[] e : SPENT_ENDINGS) {
            plain.ending(e[0], e[1]);
        }
        for (int[] w : SPENT_WORDS) {
            plain.word(w[0], w[1]);
        }
        Checks.due("plain least()", plain.least(), SPENT);
        Checks.due("looks", plain.looks(), 20001);
        Checks.dueThat("a row was found ahead of SPENT", plain.foundARow());
        long before = x.digest();
        Checks.dueAndNothingChanged(x, before, "least() ahead of a choice", x.least(), SPENT);
        Checks.due("phrases behind SPENT", x.count(3), 0);
        int chosen = x.choose();
        Checks.due("choose() behind SPENT", chosen, plain.choose());
        before = x.digest();
        Checks.dueAndNothingChanged(x, before, "least() behind a choice", x.least(), SPENT);
        Checks.due("phrases behind choose() and SPENT", x.count(3), chosen);
    }

    /** Words 11111 and 00000. */
    private static DrumTongue onesAndNoughts() {
        return chosen(2, 5, new int[][] {}, new int[][] {{5, 31}, {5, 0}});
    }

    /** 55 beats 1 and 5 beats 0, drummed. */
    private static DrumTongue fullOfTwelve() {
        DrumTongue x = onesAndNoughts();
        for (int i = 1; i <= 11; i++) {
            Checks.due("drum(0) " + i, x.drum(0), 5 * i);
        }
        Checks.due("drum(1) to the sixtieth beat", x.drum(1), 60);
        return x;
    }

    // "A MESSAGE is a row of WORDS with PHRASES, 12 at most.", "READ: the row of 0 to 12 WORDS"
    private static void messageOfTwelve() {
        DrumTongue x = chosen(1, 1, new int[][] {}, new int[][] {{2, 1}});
        for (int k = 0; k <= 30; k++) {
            // Of more than twelve each has two beats too many.
            Checks.due("read() of " + k + " words", x.read(), k <= 12 ? 0 : 6 * (k - 12));
            Checks.due("words of " + k, x.count(7), Math.min(k, 12));
            Checks.due("readAt(11) of " + k, x.readAt(11), k < 12 ? NONE : 0);
            Checks.due("readAt(12) of " + k, x.readAt(12), NONE);
            Checks.due("drum(0) behind " + k, x.drum(0), k < 30 ? 2 * k + 2 : FULL);
        }
    }

    // "THE HEARD is a row of up to 60: 0, 1, or GAPS (NONE)"
    private static void heardOfSixty() {
        DrumTongue x = fullOfTwelve();
        int[] due = {0, 0, 0, 0, 0, 0, 0, 0, 0, 0, 0, 1};
        dueReadNow(x, "sixty", 0, due);
        Checks.due("hear(0) at sixty", x.hear(0), FULL);
        Checks.due("hear(NONE) at sixty", x.hear(NONE), FULL);
        Checks.due("drum(0) at sixty", x.drum(0), FULL);
        Checks.due("slip(60, 0)", x.slip(60, 0), -100);
        Checks.due("slip(59, 1)", x.slip(59, 1), 0);
        dueReadNow(x, "sixty, the last one slipped", 2, due);
        Checks.due("slip(0, NONE)", x.slip(0, NONE), 1);
        dueReadNow(x, "sixty with a gap", 2, due);
        Checks.due("slip(59, 2)", x.slip(59, 2), 1);
        dueReadNow(x, "59", 3, due);
        Checks.due("slip(59, 2) of 59", x.slip(59, 2), -100);
        Checks.due("hear(0) at 59", x.hear(0), 60);
        dueReadNow(x, "sixty again", 0, due);
        Checks.due("hush() of sixty", x.hush(), 60);
        Checks.due("slip(0, 0) of nothing", x.slip(0, 0), -100);
        dueReadNow(x, "nothing", 0);
        for (int i = 1; i <= 60; i++) {
            Checks.due("gap " + i, x.hear(NONE), i);
        }
        Checks.due("gaps", x.count(6), 60);
        Checks.due("read() of sixty gaps", x.read(), 0);
        Checks.due("readAt(11) of sixty gaps", x.readAt(11), 0);
    }

    // "2 for each BEAT that was heard as the other one, 3 for each that was not heard at all, 3 for each that
    // was heard too many (a GAP, too); a GAP held for a BEAT is 0."
    private static void offByEach() {
        // 000000 and 110111, which have nothing alike that is long.
        DrumTongue x = chosen(2, 5, new int[][] {}, new int[][] {{6, 0}, {6, 55}});
        dueRead(x, "110111", 0, 1);
        for (int i = 0; i < 6; i++) {
            String before = "110111".substring(0, i);
            String behind = "110111".substring(i + 1);
            String other = i == 2 ? "1" : "0";
            dueRead(x, before + other + behind, 2, 1);
            dueRead(x, before + behind, 3, 1);
            dueRead(x, before + "?" + behind, 0, 1);
        }
        for (int i = 0; i <= 6; i++) {
            String before = "110111".substring(0, i);
            String behind = "110111".substring(i);
            dueRead(x, before + "?" + behind, 3, 1);
            dueRead(x, before + "0" + behind, 3, 1);
            dueRead(x, before + "1" + behind, 3, 1);
        }
        // Two slips are 4, one lost and one too many 6; three slips are as many as those.
        dueRead(x, "101111", 4, 1);
        dueRead(x, "??????", 0, 0);
        // 12 for six lost, or 3 for each that is too many: silence.
        dueRead(x, "?", 3);
        dueRead(x, "1", 3);
        dueRead(x, "??", 6);
        dueRead(x, "???", 9);
        dueRead(x, "????", 6, 0);
    }

    // "READ: the row .. THE HEARD is OFF least; of like ones the fewest WORDS, then the first by numbers."
    private static void readTheFewestThenTheFirst() {
        // 1111 as one word, or as 11 .. but 11 begins it: words 10, 01 and 1101.
        DrumTongue x = chosen(3, 1, new int[][] {}, new int[][] {{2, 2}, {2, 1}, {4, 13}});
        dueRead(x, "", 0);
        dueRead(x, "????", 0, 2);
        dueRead(x, "1001", 0, 0, 1);
        dueRead(x, "1?0?", 0, 2);
        dueRead(x, "??", 0, 0);
        dueRead(x, "??????", 0, 0, 2);
        dueRead(x, "0?????", 0, 1, 2);
        dueRead(x, "????10", 0, 2, 0);
        // None or one word with the like: none.
        dueRead(x, "1", 3);
        // Of like ones first by the first word, not by the last.
        dueRead(x, "0000", 4, 0, 0);
        dueRead(x, "00?0", 2, 0, 0);
        dueRead(x, "0?00", 2, 1, 0);
    }

    // "THE DOUBT of WORD i", "NONE; BAD: not so many", "MOST IN DOUBT: the first i with the least."
    private static void doubtsOfTwelve() {
        DrumTongue x = fullOfTwelve();
        for (int i = 0; i < 12; i++) {
            Checks.due("doubt(" + i + ") of twelve", x.doubt(i), 10);
        }
        for (int i : new int[] {12, 13, 59, 60, 61, MAX, -1, -2, -12, MIN}) {
            Checks.due("doubt(" + i + ") of twelve", x.doubt(i), BAD);
        }
        Checks.due("most() of like ones", x.most(), 0);
        x.slip(59, 1);
        Checks.due("doubt(11) of 00001", x.doubt(11), 6);
        Checks.due("most(): the last", x.most(), 11);
        x.slip(29, NONE);
        Checks.due("doubt(5) of 1111?", x.doubt(5), 8);
        Checks.due("most(): the last still", x.most(), 11);
        x.slip(28, NONE);
        Checks.due("doubt(5) of 111??", x.doubt(5), 6);
        Checks.due("most(): the first of two", x.most(), 5);
        x.slip(0, 0);
        x.slip(1, 0);
        Checks.due("doubt(0) of 00111", x.doubt(0), 2);
        Checks.due("most(): the first word", x.most(), 0);
        x.hush();
        Checks.due("doubt(0) of nothing", x.doubt(0), BAD);
        Checks.due("most() of nothing", x.most(), NONE);
    }

    // "by how much more THE HEARD is OFF from that row with the best other WORD in its place (the least of
    // these); NONE: there is no other WORD."
    private static void doubtOfTheBestOther() {
        // 1111 with a beat too many inside, heard as 11011.
        DrumTongue x = chosen(3, 2, new int[][] {}, new int[][] {{6, 4}, {5, 27}, {4, 15}});
        dueRead(x, "11011", 0, 1);
        Checks.due("doubt(0): a beat too many", x.doubt(0), 3);
        dueRead(x, "1111", 0, 2);
        Checks.due("doubt(0): a beat lost", x.doubt(0), 3);
        dueRead(x, "11?11", 0, 1);
        Checks.due("doubt(0): a gap too many", x.doubt(0), 3);
        dueRead(x, "000100", 0, 0);
        // 00010 with a 0 too many and three slips is 11011.
        Checks.due("doubt(0): one too many and three slips", x.doubt(0), 3 + 3 * 2);
        // The only phrase: of several words of which one has one, and of one word.
        DrumTongue y = chosen(1, 1, new int[][] {}, new int[][] {{1, 1}, {2, 2}, {1, 1}});
        dueRead(y, "1", 0, 0);
        Checks.due("doubt(0) of the only one", y.doubt(0), NONE);
        Checks.due("doubt(1) of the only one", y.doubt(1), BAD);
        Checks.due("doubt(-1) of the only one", y.doubt(-1), BAD);
        Checks.due("most() of the only one", y.most(), NONE);
        DrumTongue z = chosen(1, 1, new int[][] {}, new int[][] {{1, 1}});
        hearAll(z, "1");
        Checks.due("doubt(0) of one word", z.doubt(0), NONE);
        Checks.due("most() of one word", z.most(), NONE);
    }

    // "thousandths (0 .. 1000; 0 at first) .. and hours (1 .. 20; 1 at first)", "HILLS 0 .. 5"
    private static void hillsAtFirst() {
        DrumTongue x = new DrumTongue();
        long before = x.digest();
        for (int s = 0; s < 6; s++) {
            for (int d = 0; d < 6; d++) {
                Checks.due("hill " + s + " " + d + " as at first", x.hill(s, d, 0, 1), s == d ? BAD : 1);
                Checks.due("digest as at first", x.digest(), before);
            }
        }
        for (int hill : new int[] {-1, 6, 7, -6, MAX, MIN}) {
            Checks.due("hill(" + hill + ", 0)", x.hill(hill, 0, 1, 1), BAD);
            Checks.due("hill(0, " + hill + ")", x.hill(0, hill, 1, 1), BAD);
            Checks.due("hill(" + hill + ", " + hill + ")", x.hill(hill, hill, 1, 1), BAD);
            Checks.due("way(" + hill + ", 0)", x.way(hill, 0), BAD);
            Checks.due("way(0, " + hill + ")", x.way(0, hill), BAD);
            Checks.due("way(" + hill + ", " + hill + ")", x.way(hill, hill), BAD);
        }
        Checks.due("digest behind bad hills", x.digest(), before);
        Checks.due("the least of each", x.hill(4, 5, 0, 1), 1);
        Checks.due("one thousandth", x.hill(4, 5, 1, 1), 1);
        Checks.due("way of it", x.way(4, 5), SURE / 1000);
        Checks.due("the most of each", x.hill(4, 5, 1000, 20), 1);
        Checks.due("way of it", x.way(4, 5), SURE);
        Checks.due("age of it", x.age(4, 5), 20);
    }

    // "from each to each other one": thirty numbers of thousandths and of hours.
    private static void hillsByThirty() {
        DrumTongue x = new DrumTongue();
        long h = 241;
        for (int v : new int[] {0, 0, 1, 0, 0, 0, 0, 0}) {
            h = 31 * h + v;
        }
        for (int s = 0; s < 6; s++) {
            for (int d = 0; d < 6; d++) {
                int thousandths = 530 - 6 * s - d;
                int hours = 1 + (5 * s + d) % 20;
                Checks.due("hill " + s + " " + d, x.hill(s, d, thousandths, hours), s == d ? BAD : 1);
                h = s == d ? h : 31 * (31 * h + thousandths) + hours;
            }
        }
        Checks.due("digest of thirty", x.digest(), h);
        // No two steps come up to one.
        for (int s = 0; s < 6; s++) {
            for (int d = 0; d < 6; d++) {
                boolean pair = s != d;
                Checks.due("way " + s + " " + d, x.way(s, d), pair ? (530 - 6 * s - d) * 1000000 : BAD);
                Checks.due("age " + s + " " + d, x.age(s, d), pair ? 1 + (5 * s + d) % 20 : BAD);
                Checks.due("wayAt " + s + " " + d + " 0", x.wayAt(s, d, 0), pair ? s : BAD);
                Checks.due("wayAt " + s + " " + d + " 1", x.wayAt(s, d, 1), pair ? d : BAD);
                Checks.due("wayAt " + s + " " + d + " 2", x.wayAt(s, d, 2), pair ? NONE : BAD);
            }
        }
    }

    // "THE BEST WAY: the greatest CHANCE (above 0), of like ones the fewest hours, then the first by HILLS."
    private static void bestWay() {
        DrumTongue x = new DrumTongue();
        x.hill(3, 5, 500, 4);
        x.hill(3, 4, 1000, 2);
        x.hill(4, 5, 500, 2);
        // Like chances, like hours: 3 4 5 goes ahead of 3 5, and 3 0 5 ahead of both.
        Checks.due("wayAt(3, 5, 1)", x.wayAt(3, 5, 1), 4);
        x.hill(3, 0, 500, 2);
        x.hill(0, 5, 1000, 2);
        Checks.due("wayAt(3, 5, 1), a smaller hill", x.wayAt(3, 5, 1), 0);
        Checks.due("wayAt(3, 5, 2)", x.wayAt(3, 5, 2), 5);
        Checks.due("wayAt(3, 5, 3)", x.wayAt(3, 5, 3), NONE);
        // An hour fewer goes ahead of smaller hills, one thousandth more ahead of hours.
        x.hill(3, 5, 500, 3);
        Checks.due("wayAt(3, 5, 1), an hour fewer", x.wayAt(3, 5, 1), 5);
        Checks.due("age(3, 5), an hour fewer", x.age(3, 5), 3);
        x.hill(3, 4, 1000, 20);
        x.hill(4, 5, 501, 20);
        Checks.due("wayAt(3, 5, 1), a thousandth more", x.wayAt(3, 5, 1), 4);
        Checks.due("age(3, 5), a thousandth more", x.age(3, 5), 40);
        Checks.due("way(3, 5)", x.way(3, 5), 501000000);
        // A chance of 1 is above 0; of 999 of it nothing is left.
        DrumTongue y = new DrumTongue();
        y.hill(0, 1, 1, 1);
        y.hill(1, 2, 1, 1);
        y.hill(2, 3, 1, 1);
        y.hill(3, 4, 1000, 1);
        y.hill(3, 5, 999, 1);
        Checks.due("way(0, 3)", y.way(0, 3), 1);
        Checks.due("way(0, 4)", y.way(0, 4), 1);
        Checks.due("age(0, 4)", y.age(0, 4), 4);
        Checks.due("enough(0, 4, 1)", y.enough(0, 4, 1), 4);
        Checks.due("way(0, 5)", y.way(0, 5), NONE);
        Checks.due("age(0, 5)", y.age(0, 5), NONE);
        Checks.due("wayAt(0, 5, 0)", y.wayAt(0, 5, 0), NONE);
        Checks.due("enough(0, 5, 1)", y.enough(0, 5, 1), NONE);
        Checks.due("times(0, 5, 1, 0)", y.times(0, 5, 1, 0), NONE);
    }

    /** 4 3 5 0 2 1, each step as told. */
    private static final int[] CHAIN = {4, 3, 5, 0, 2, 1};

    private static DrumTongue chain(int thousandths) {
        DrumTongue x = new DrumTongue();
        for (int i = 0; i < 5; i++) {
            x.hill(CHAIN[i], CHAIN[i + 1], thousandths, 20);
        }
        return x;
    }

    // "A WAY from s to d: HILLS, none twice": six at most. "The i-th HILL of it (s is the 0-th). NONE: not so many"
    private static void wayOfSixHills() {
        DrumTongue x = chain(1000);
        // Back to each hill ahead, so that a way could go in a circle.
        for (int i = 1; i < 5; i++) {
            x.hill(CHAIN[i], CHAIN[i - 1], 1000, 1);
        }
        Checks.due("way of six hills", x.way(4, 1), SURE);
        Checks.due("age of six hills", x.age(4, 1), 100);
        for (int i = 0; i < 6; i++) {
            Checks.due("hill " + i + " of six", x.wayAt(4, 1, i), CHAIN[i]);
        }
        for (int i : new int[] {6, 7, 100, MAX, -1, MIN}) {
            Checks.due("hill " + i + " of six", x.wayAt(4, 1, i), NONE);
        }
        // A short way behind a long one: nothing of the long one is left.
        Checks.due("way of two hills", x.way(2, 1), SURE);
        Checks.due("hill 1 of two", x.wayAt(2, 1, 1), 1);
        for (int i = 2; i < 6; i++) {
            Checks.due("hill " + i + " of two", x.wayAt(2, 1, i), NONE);
            Checks.due("step " + i + " of one", x.times(2, 1, 1, i - 1), NONE);
        }
        Checks.due("no way behind a way", x.way(1, 4), NONE);
        Checks.due("hill 0 of no way", x.wayAt(1, 4, 0), NONE);
    }

    // "ENOUGH for a CHANCE c: numbers of times for the steps of THE BEST WAY with the least sum by which it is
    // c or more; of like ones the first by the steps." "NONE: three each are not"
    private static void enoughOfFiveSteps() {
        DrumTongue x = chain(900);
        dueFive(x, 1, 1, 1, 1, 1, 1);
        dueFive(x, 590490000, 1, 1, 1, 1, 1);
        dueFive(x, 590490001, 1, 1, 1, 1, 2);
        dueFive(x, 649539000, 1, 1, 1, 1, 2);
        // 655443900 for one step drummed three times, 714492900 for two of them twice.
        dueFive(x, 649539001, 1, 1, 1, 1, 3);
        dueFive(x, 655443900, 1, 1, 1, 1, 3);
        dueFive(x, 655443901, 1, 1, 1, 2, 2);
        dueFive(x, 995009990, 3, 3, 3, 3, 3);
        Checks.due("enough above three each", x.enough(4, 1, 995009991), NONE);
        for (int i = 0; i < 5; i++) {
            Checks.due("times above three each", x.times(4, 1, 995009991, i), NONE);
        }
        dueFive(chain(1000), SURE, 1, 1, 1, 1, 1);
        DrumTongue y = chain(1000);
        y.hill(4, 3, 999, 20);
        Checks.due("a way that is never sure", y.enough(4, 1, SURE), NONE);
        dueFive(y, SURE - 1, 3, 1, 1, 1, 1);
        dueFive(y, SURE - 1000, 2, 1, 1, 1, 1);
        dueFive(y, SURE - 999, 3, 1, 1, 1, 1);
    }

    private static void dueFive(DrumTongue x, int c, int... times) {
        int sum = 0;
        for (int i = 0; i < times.length; i++) {
            Checks.due("times(4, 1, " + c + ", " + i + ")", x.times(4, 1, c, i), times[i]);
            sum += times[i];
        }
        Checks.due("enough(4, 1, " + c + ")", x.enough(4, 1, c), sum);
        for (int i : new int[] {5, 6, MAX, -1, MIN}) {
            Checks.due("times(4, 1, " + c + ", " + i + ")", x.times(4, 1, c, i), NONE);
        }
    }

    // "ENOUGH for c (1 .. 1000000000)"
    private static void enoughAtTheEdgesOfC() {
        DrumTongue x = chain(1000);
        for (int c : new int[] {1, 2, SURE - 1, SURE}) {
            Checks.due("enough(4, 1, " + c + ")", x.enough(4, 1, c), 5);
            Checks.due("times(4, 1, " + c + ", 4)", x.times(4, 1, c, 4), 1);
            Checks.due("enough(1, 4, " + c + ")", x.enough(1, 4, c), NONE);
            Checks.due("times(1, 4, " + c + ", 0)", x.times(1, 4, c, 0), NONE);
            Checks.due("enough(4, 4, " + c + ")", x.enough(4, 4, c), BAD);
            Checks.due("times(4, 4, " + c + ", 0)", x.times(4, 4, c, 0), BAD);
        }
        for (int c : new int[] {0, -1, SURE + 1, -SURE, MAX, MIN}) {
            Checks.due("enough(4, 1, " + c + ")", x.enough(4, 1, c), BAD);
            Checks.due("enough(1, 4, " + c + ")", x.enough(1, 4, c), BAD);
            for (int i : new int[] {0, 4, 5, -1, MAX}) {
                Checks.due("times(4, 1, " + c + ", " + i + ")", x.times(4, 1, c, i), BAD);
                Checks.due("times(1, 4, " + c + ", " + i + ")", x.times(1, 4, c, i), BAD);
            }
        }
    }

    // "How many: 0 WORDS, 1 ENDINGS, 2 the BOUND, .. 7 WORDS READ last. BAD."
    private static void counts() {
        DrumTongue x = fullOfTwelve();
        x.read();
        int[] due = {2, 0, 5, 2, 10, 60, 0, 12};
        for (int what = 0; what < due.length; what++) {
            Checks.due("count(" + what + ")", x.count(what), due[what]);
        }
        for (int what : new int[] {8, 9, 15, -1, -8, MAX, MIN}) {
            Checks.due("count(" + what + ")", x.count(what), BAD);
        }
    }

    // "digest: h = 241; then h = 31 h + v for each v": more than a long holds.
    private static void digestWrapsAround() {
        DrumTongue x = fullOfTwelve();
        x.slip(30, NONE);
        x.read();
        long h = 241;
        for (int v : new int[] {2, 0, 5, 2, 10, 60, 1, 12, 5, 1, 1, 1, 1, 1, NONE, NONE, 5, 0, 0, 0, 0, 0, NONE, NONE}) {
            h = 31 * h + v;
        }
        for (int i = 0; i < 60; i++) {
            h = 31 * h + (i == 30 ? NONE : i < 55 ? 1 : 0);
        }
        for (int i = 0; i < 12; i++) {
            h = 31 * h + (i < 11 ? 0 : 1);
        }
        for (int i = 0; i < 30; i++) {
            h = 31 * (31 * h) + 1;
        }
        Checks.due("digest of sixty", x.digest(), h);
        Checks.due("digest again", x.digest(), h);
    }
}
