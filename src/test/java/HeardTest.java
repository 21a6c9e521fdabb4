/** Promises 11 to 18: what was heard, how it is read, and what in it is in doubt. */
public final class HeardTest {
    private static final int NONE = DrumTongue.NONE;
    private static final int BAD = DrumTongue.BAD;
    private static final int NO = DrumTongue.NO;
    private static final int FULL = DrumTongue.FULL;
    private static final int MAX = Integer.MAX_VALUE;
    private static final int MIN = Integer.MIN_VALUE;

    private HeardTest() {
    }

    public static void main(String[] args) {
        hear();
        drum();
        slip();
        hush();
        readCosts();
        readTakesFewestWordsThenTheFirst();
        readAtMostTwelve();
        readRefused();
        readAt();
        doubt();
        doubtRefused();
        most();
        Checks.finish("HeardTest");
    }

    /** Words 101, 010 and 110, each its own phrase. */
    private static DrumTongue threeWords() {
        DrumTongue x = new DrumTongue();
        x.word(3, 5);
        x.word(3, 2);
        x.word(3, 6);
        Checks.due("choose() of three words", x.choose(), 3);
        return x;
    }

    private static void hearAll(DrumTongue x, String row) {
        x.hush();
        for (int i = 0; i < row.length(); i++) {
            char c = row.charAt(i);
            Checks.due("hear " + i + " of " + row, x.hear(c == '?' ? NONE : c - '0'), i + 1);
        }
    }

    private static void dueRead(DrumTongue x, String row, int off, int... words) {
        hearAll(x, row);
        Checks.due("read() of " + row, x.read(), off);
        Checks.due("words of " + row, x.count(7), words.length);
        for (int i = 0; i < words.length; i++) {
            Checks.due("readAt(" + i + ") of " + row, x.readAt(i), words[i]);
        }
        Checks.due("readAt behind " + row, x.readAt(words.length), NONE);
    }

    private static void hear() {
        DrumTongue x = new DrumTongue();
        Checks.due("hear(0)", x.hear(0), 1);
        Checks.due("hear(1)", x.hear(1), 2);
        Checks.due("hear(NONE)", x.hear(NONE), 3);
        long before = x.digest();
        for (int v : new int[] {2, -2, 3, MAX, MIN}) {
            Checks.dueAndNothingChanged(x, before, "hear(" + v + ")", x.hear(v), BAD);
        }
        for (int i = 4; i <= 60; i++) {
            Checks.due("hear " + i, x.hear(i % 3 - 1), i);
        }
        before = x.digest();
        Checks.dueAndNothingChanged(x, before, "hear(1) when full", x.hear(1), FULL);
        Checks.dueAndNothingChanged(x, before, "hear(NONE) when full", x.hear(NONE), FULL);
        Checks.dueAndNothingChanged(x, before, "hear(2) when full", x.hear(2), BAD);
        Checks.due("slip(0, 0)", x.slip(0, 0), 0);
        Checks.due("slip(1, 1)", x.slip(1, 1), 1);
        Checks.due("slip(2, -1)", x.slip(2, NONE), NONE);
    }

    private static void drum() {
        DrumTongue x = new DrumTongue();
        x.ending(2, 2);
        x.word(3, 4);
        x.word(3, 4);
        x.word(1, 0);
        Checks.due("drum(0) ahead of a choice", x.drum(0), NO);
        Checks.due("choose()", x.choose(), 2);
        Checks.due("drum(0)", x.drum(0), 3);
        Checks.due("drum(2)", x.drum(2), 4);
        int[] due = {1, 0, 0, 0};
        for (int i = 0; i < due.length; i++) {
            Checks.due("drummed beat " + i, x.slip(i, due[i]), due[i]);
        }
        long before = x.digest();
        Checks.dueAndNothingChanged(x, before, "drum(1)", x.drum(1), NO);
        for (int word : new int[] {3, 9, 10, -1, MAX, MIN}) {
            Checks.dueAndNothingChanged(x, before, "drum(" + word + ")", x.drum(word), BAD);
        }
        for (int i = 5; i <= 58; i++) {
            x.hear(1);
        }
        before = x.digest();
        Checks.dueAndNothingChanged(x, before, "drum(0) with room for 2", x.drum(0), FULL);
        Checks.due("drum(2) with room for 2", x.drum(2), 59);
        x.slip(0, 2);
        x.slip(0, 2);
        Checks.due("drum(0) with room for 3", x.drum(0), 60);
        before = x.digest();
        Checks.dueAndNothingChanged(x, before, "drum(2) when full", x.drum(2), FULL);
        Checks.dueAndNothingChanged(x, before, "drum(1) when full", x.drum(1), NO);
        Checks.dueAndNothingChanged(x, before, "drum(3) when full", x.drum(3), BAD);
        drumWithEndings();
    }

    private static void drumWithEndings() {
        DrumTongue x = new DrumTongue();
        x.ending(2, 2);
        x.word(1, 1);
        x.word(1, 0);
        x.bound(3);
        Checks.due("choose() by 3", x.choose(), 2);
        Checks.due("drum(1) with its ending", x.drum(1), 3);
        Checks.due("beat 0", x.slip(0, 0), 0);
        Checks.due("beat 1", x.slip(1, 0), 1);
        Checks.due("beat 2", x.slip(2, 0), 0);
    }

    private static void slip() {
        DrumTongue x = new DrumTongue();
        Checks.due("slip of nothing", x.slip(0, 1), -100);
        hearAll(x, "10?1");
        Checks.due("slip(0, 0)", x.slip(0, 0), 1);
        Checks.due("slip(0, -1)", x.slip(0, NONE), 0);
        Checks.due("slip(0, 1)", x.slip(0, 1), NONE);
        long before = x.digest();
        for (int i : new int[] {4, 60, -1, MAX, MIN}) {
            Checks.dueAndNothingChanged(x, before, "slip(" + i + ", 1)", x.slip(i, 1), -100);
            Checks.dueAndNothingChanged(x, before, "slip(" + i + ", 2)", x.slip(i, 2), -100);
        }
        for (int v : new int[] {3, -2, MAX, MIN}) {
            Checks.dueAndNothingChanged(x, before, "slip(0, " + v + ")", x.slip(0, v), -100);
        }
        Checks.due("slip(1, 2)", x.slip(1, 2), 0);
        Checks.due("heard", x.count(5), 3);
        Checks.due("gaps", x.count(6), 1);
        Checks.due("slip(1, 2): the gap", x.slip(1, 2), NONE);
        Checks.due("slip(1, 2): the last", x.slip(1, 2), 1);
        Checks.due("slip(1, 2): gone", x.slip(1, 2), -100);
        Checks.due("slip(0, 2)", x.slip(0, 2), 1);
        Checks.due("heard", x.count(5), 0);
    }

    private static void hush() {
        DrumTongue x = threeWords();
        Checks.due("hush() of nothing", x.hush(), 0);
        hearAll(x, "101?");
        x.read();
        Checks.due("hush()", x.hush(), 4);
        Checks.due("hush() again", x.hush(), 0);
        Checks.due("heard", x.count(5), 0);
        Checks.due("gaps", x.count(6), 0);
        Checks.due("phrases stay", x.count(3), 3);
        Checks.due("read last stays", x.readAt(0), 0);
        Checks.due("hear behind hush()", x.hear(1), 1);
    }

    private static void readCosts() {
        DrumTongue x = threeWords();
        dueRead(x, "101", 0, 0);
        dueRead(x, "110010101", 0, 2, 1, 0);
        dueRead(x, "010", 0, 1);
        // A beat heard as the other one, one not heard, one too many, a gap for a beat, a gap too many.
        dueRead(x, "111", 2, 0);
        dueRead(x, "11", 3, 0);
        dueRead(x, "1011", 3, 0);
        dueRead(x, "?10", 0, 1);
        dueRead(x, "1??", 0, 0);
        dueRead(x, "101?", 3, 0);
        dueRead(x, "", 0);
        dueRead(x, "1", 3);
        dueRead(x, "?", 3);
        // 101010 with its first 0 lost, or 110010 with its second 0 lost: the first by numbers.
        dueRead(x, "11010", 3, 0, 1);
        // 101 110 with a 1 too many, or 110 110 with the gap too many.
        dueRead(x, "110?110", 3, 0, 2);
    }

    private static void readTakesFewestWordsThenTheFirst() {
        DrumTongue x = new DrumTongue();
        x.word(4, 15);
        x.choose();
        // Two gaps too many, or two beats of 1111 not heard: both 6.
        dueRead(x, "??", 6);
        dueRead(x, "???", 3, 0);
        dueRead(x, "??????", 6, 0);
        dueRead(x, "???????", 3, 0, 0);
        // Of like rows the first by numbers, place by place.
        DrumTongue y = new DrumTongue();
        y.word(2, 2);
        y.word(2, 1);
        y.word(2, 0);
        y.choose();
        dueRead(y, "????", 0, 0, 0);
        dueRead(y, "??00", 0, 0, 2);
        dueRead(y, "0???", 0, 1, 0);
        dueRead(y, "11", 2, 0);
        dueRead(y, "1111", 4, 0, 0);
        // A word that has no phrase is never read.
        DrumTongue z = new DrumTongue();
        z.word(1, 1);
        z.word(2, 3);
        z.word(1, 0);
        Checks.due("z.choose()", z.choose(), 2);
        dueRead(z, "110", 0, 0, 0, 2);
    }

    private static void readAtMostTwelve() {
        DrumTongue x = new DrumTongue();
        x.word(1, 1);
        x.word(2, 1);
        x.choose();
        dueRead(x, "111111111111", 0, 0, 0, 0, 0, 0, 0, 0, 0, 0, 0, 0, 0);
        dueRead(x, "1111111111111", 2, 0, 0, 0, 0, 0, 0, 0, 0, 0, 0, 0, 1);
        Checks.due("x.readAt(12)", x.readAt(12), NONE);
    }

    private static void readRefused() {
        DrumTongue x = threeWords();
        dueRead(x, "101110", 0, 0, 2);
        x.bound(1);
        long before = x.digest();
        Checks.dueAndNothingChanged(x, before, "read() with no phrases", x.read(), NO);
        Checks.due("read last stays", x.readAt(1), 2);
        DrumTongue y = new DrumTongue();
        Checks.due("y.read()", y.read(), NO);
        y.word(1, 1);
        Checks.due("y.read() with a word", y.read(), NO);
        y.choose();
        Checks.due("y.read() with a phrase", y.read(), 0);
        Checks.due("y words read", y.count(7), 0);
    }

    private static void readAt() {
        DrumTongue x = threeWords();
        Checks.due("readAt(0) ahead of read()", x.readAt(0), NONE);
        dueRead(x, "010110", 0, 1, 2);
        for (int i : new int[] {2, 11, 12, -1, MAX, MIN}) {
            Checks.due("readAt(" + i + ")", x.readAt(i), NONE);
        }
        // What was read last stays until the next read().
        hearAll(x, "101");
        Checks.due("readAt(0) behind hear()", x.readAt(0), 1);
        x.doubt(0);
        x.most();
        Checks.due("readAt(0) behind doubt() and most()", x.readAt(0), 1);
        x.read();
        Checks.due("readAt(0) behind read()", x.readAt(0), 0);
        Checks.due("readAt(1) behind read()", x.readAt(1), NONE);
    }

    private static void doubt() {
        DrumTongue x = threeWords();
        hearAll(x, "101110");
        // 101 as 110: two slips; 110 as 010: one, and 110 as 101 two.
        Checks.due("doubt(0) ahead of read()", x.doubt(0), 4);
        Checks.due("doubt(1)", x.doubt(1), 2);
        Checks.due("words read last", x.count(7), 0);
        Checks.due("doubt(2)", x.doubt(2), BAD);
        // By how much more, not by how much: the row itself is off by 2.
        hearAll(x, "000");
        Checks.due("read() of 000", x.read(), 2);
        Checks.due("readAt(0) of 000", x.readAt(0), 1);
        Checks.due("doubt(0) of 000", x.doubt(0), 2);
        hearAll(x, "???");
        Checks.due("doubt(0) of gaps", x.doubt(0), 0);
        doubtHoldsTheOtherWords();
        doubtWithTheOtherWordLost();
    }

    /** The other words of the row stay where they are, though another row may be less off. */
    private static void doubtHoldsTheOtherWords() {
        DrumTongue x = new DrumTongue();
        x.word(1, 0);
        x.word(6, 63);
        x.choose();
        hearAll(x, "0111111");
        Checks.due("doubt(0), 111111 for 0", x.doubt(0), 3 * 5 + 2);
        Checks.due("doubt(1), 0 for 111111", x.doubt(1), 3 * 5 + 2);
        hearAll(x, "00");
        Checks.due("read() of 00", x.read(), 0);
        Checks.due("doubt(0) of 00", x.doubt(0), 17);
        Checks.due("doubt(1) of 00", x.doubt(1), 17);
    }

    /** The best other word is not heard at all: its beat is lost, and the rest takes all that was heard. */
    private static void doubtWithTheOtherWordLost() {
        DrumTongue x = new DrumTongue();
        x.word(1, 0);
        x.word(3, 6);
        x.choose();
        hearAll(x, "1101101111011");
        Checks.due("read() of 1101101111011", x.read(), 6);
        Checks.due("words of 1101101111011", x.count(7), 5);
        Checks.due("doubt(0), 0 for 110", x.doubt(0), 4);
    }

    private static void doubtRefused() {
        DrumTongue x = new DrumTongue();
        doubtIsNo(x, "with no words");
        x.word(2, 1);
        x.word(2, 1);
        doubtIsNo(x, "with no phrases");
        hearAll(x, "01");
        doubtIsNo(x, "with no phrases, something heard");
        x.hush();
        Checks.due("choose()", x.choose(), 1);
        Checks.due("doubt(0) of nothing heard", x.doubt(0), BAD);
        Checks.due("doubt(-1) of nothing heard", x.doubt(-1), BAD);
        hearAll(x, "01");
        Checks.due("doubt(0): no other word has a phrase", x.doubt(0), NONE);
        long before = x.digest();
        for (int i : new int[] {1, 11, 12, -1, MAX, MIN}) {
            Checks.dueAndNothingChanged(x, before, "doubt(" + i + ")", x.doubt(i), BAD);
        }
        x.read();
        x.bound(1);
        doubtIsNo(x, "behind bound(), with a word read last");
    }

    /** Nothing can be read now: NO as read() for what might be a word's number, BAD for what never is. */
    private static void doubtIsNo(DrumTongue x, String when) {
        long before = x.digest();
        for (int i : new int[] {0, 1, 11, 12, 59, 60, 26283632, MAX}) {
            Checks.dueAndNothingChanged(x, before, "doubt(" + i + ") " + when, x.doubt(i), NO);
        }
        for (int i : new int[] {-1, -2, -3, -12, -100, -26283632, MIN + 1, MIN}) {
            Checks.dueAndNothingChanged(x, before, "doubt(" + i + ") " + when, x.doubt(i), BAD);
        }
    }

    private static void most() {
        DrumTongue x = threeWords();
        Checks.due("most() of nothing heard", x.most(), NONE);
        hearAll(x, "101110");
        Checks.due("most() ahead of read()", x.most(), 1);
        Checks.due("words read last", x.count(7), 0);
        // Both words are as doubtful: the first one.
        hearAll(x, "110110");
        Checks.due("most() of like ones", x.most(), 0);
        hearAll(x, "101101?10");
        Checks.due("most(): the gap", x.most(), 2);
        DrumTongue y = new DrumTongue();
        Checks.due("y.most()", y.most(), NO);
        y.word(2, 1);
        y.word(2, 1);
        Checks.due("y.most() with no phrases", y.most(), NO);
        y.choose();
        hearAll(y, "0101");
        Checks.due("y.most(): no word has another one", y.most(), NONE);
        y.bound(2);
        Checks.due("y.most() behind bound()", y.most(), NO);
    }
}
