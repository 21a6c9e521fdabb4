import java.util.Arrays;

/** Drums that speak a tongue by its tones alone, what was heard of them, and the hills between. */
public final class DrumTongue {

    public static final int NONE = -1, BAD = -2, NO = -3, FULL = -4, SPENT = -5;

    private static final int SLIP_REFUSED = -100;
    private static final int GONE = 2;
    private static final int COUNTS = 8;

    private final Tongue tongue = new Tongue();
    private final Ear ear = new Ear();
    private final Reader reader = new Reader(tongue, ear);
    private final Hills hills = new Hills();

    public DrumTongue() {
    }

    // ---- words

    public int word(int n, int bits) {
        if (!Rows.isRow(n, bits)) {
            return BAD;
        }
        return tongue.addWord(n, bits);
    }

    public int ending(int n, int bits) {
        if (!Rows.isRow(n, bits)) {
            return BAD;
        }
        return tongue.addEnding(n, bits);
    }

    public int bound(int v) {
        if (v < 1 || v > Tongue.MOST_BOUND) {
            return BAD;
        }
        return tongue.changeBound(v);
    }

    public int choose() {
        return tongue.chooseInTurn();
    }

    public int least() {
        return tongue.chooseForTheLeast();
    }

    public int length(int word) {
        if (!tongue.isWord(word)) {
            return BAD;
        }
        return tongue.hasPhrase(word) ? tongue.phraseSize(word) : NONE;
    }

    public int beat(int word, int i) {
        if (!tongue.isWord(word)) {
            return BAD;
        }
        return tongue.phraseBeat(word, i);
    }

    public int endingAt(int word, int i) {
        if (!tongue.isWord(word)) {
            return BAD;
        }
        return tongue.phraseEnding(word, i);
    }

    public int far(int a, int b) {
        if (!tongue.isWord(a) || !tongue.isWord(b) || a == b) {
            return BAD;
        }
        if (!tongue.hasPhrase(a) || !tongue.hasPhrase(b)) {
            return NO;
        }
        return tongue.howFar(a, b);
    }

    // ---- heard

    public int hear(int v) {
        if (v < NONE || v > 1) {
            return BAD;
        }
        return ear.room() < 1 ? FULL : ear.add(v);
    }

    public int drum(int word) {
        if (!tongue.isWord(word)) {
            return BAD;
        }
        if (!tongue.hasPhrase(word)) {
            return NO;
        }
        int size = tongue.phraseSize(word);
        if (ear.room() < size) {
            return FULL;
        }
        for (int i = 0; i < size; i++) {
            ear.add(tongue.phraseBeat(word, i));
        }
        return ear.size();
    }

    public int slip(int i, int v) {
        if (v < NONE || v > GONE || i < 0 || i >= ear.size()) {
            return SLIP_REFUSED;
        }
        int was = ear.at(i);
        if (v == GONE) {
            ear.takeOut(i);
        } else {
            ear.change(i, v);
        }
        return was;
    }

    public int hush() {
        return ear.empty();
    }

    public int read() {
        if (!reader.readNow()) {
            return NO;
        }
        reader.keepAsLast();
        return reader.offNow();
    }

    public int readAt(int i) {
        return reader.lastAt(i);
    }

    public int doubt(int i) {
        if (i < 0) {
            return BAD;
        }
        // NO ahead of "not so many": how many words there are shows only when it has been read.
        if (!reader.readNow()) {
            return NO;
        }
        return i < reader.sizeNow() ? reader.doubtAt(i) : BAD;
    }

    public int most() {
        return reader.readNow() ? reader.mostInDoubt() : NO;
    }

    // ---- hills

    public int hill(int from, int to, int chance, int hours) {
        if (!Hills.arePair(from, to) || chance < 0 || chance > Hills.MOST_CHANCE) {
            return BAD;
        }
        if (hours < 1 || hours > Hills.MOST_HOURS) {
            return BAD;
        }
        hills.join(from, to, chance, hours);
        return 1;
    }

    public int way(int s, int d) {
        if (!Hills.arePair(s, d)) {
            return BAD;
        }
        return hills.findBest(s, d) ? hills.bestChance() : NONE;
    }

    public int wayAt(int s, int d, int i) {
        if (!Hills.arePair(s, d)) {
            return BAD;
        }
        return hills.findBest(s, d) ? hills.bestAt(i) : NONE;
    }

    public int age(int s, int d) {
        if (!Hills.arePair(s, d)) {
            return BAD;
        }
        return hills.findBest(s, d) ? hills.bestHours() : NONE;
    }

    public int enough(int s, int d, int c) {
        if (!Hills.arePair(s, d) || c < 1 || c > Hills.SURE) {
            return BAD;
        }
        return hills.findEnough(s, d, c) ? hills.enoughSum() : NONE;
    }

    public int times(int s, int d, int c, int i) {
        if (!Hills.arePair(s, d) || c < 1 || c > Hills.SURE) {
            return BAD;
        }
        return hills.findEnough(s, d, c) ? hills.enoughAt(i) : NONE;
    }

    public int count(int what) {
        switch (what) {
            case 0: return tongue.wordCount();
            case 1: return tongue.endingCount();
            case 2: return tongue.boundNow();
            case 3: return tongue.phraseCount();
            case 4: return tongue.beatsOfAllPhrases();
            case 5: return ear.size();
            case 6: return ear.gaps();
            case 7: return reader.lastSize();
            default: return BAD;
        }
    }

    public long digest() {
        long h = 241;
        for (int what = 0; what < COUNTS; what++) {
            h = 31 * h + count(what);
        }
        h = tongue.mixInto(h);
        h = ear.mixInto(h);
        h = reader.mixInto(h);
        return hills.mixInto(h);
    }

    /** Rows of beats, each told by its size and a number whose bits are the beats, first one highest. */
    private static final class Rows {
        static final int MOST_BEATS = 6;

        private final int[] sizes;
        private final int[] numbers;
        private int used;

        Rows(int room) {
            sizes = new int[Math.max(room, 0)];
            numbers = new int[Math.max(room, 0)];
        }

        static boolean isRow(int size, int number) {
            return size >= 1 && size <= MOST_BEATS && number >= 0 && number < 1 << size;
        }

        int used() {
            return used;
        }

        boolean isFull() {
            return used >= sizes.length;
        }

        int size(int i) {
            return i >= 0 && i < used ? sizes[i] : 0;
        }

        int number(int i) {
            return i >= 0 && i < used ? numbers[i] : 0;
        }

        void add(int size, int number) {
            if (isFull()) {
                return;
            }
            sizes[used] = size;
            numbers[used] = number;
            used++;
        }

        void dropAllBehind(int keep) {
            if (keep >= 0 && keep < used) {
                used = keep;
            }
        }

        boolean allApartFrom(int size, int number, int bound) {
            for (int i = 0; i < used; i++) {
                if (!areApart(sizes[i], numbers[i], size, number, bound)) {
                    return false;
                }
            }
            return true;
        }

        /** At how many of the places that both rows have they differ. */
        static int differing(int sizeA, int numberA, int sizeB, int numberB) {
            int shared = Math.min(sizeA, sizeB);
            return Integer.bitCount((numberA >> (sizeA - shared)) ^ (numberB >> (sizeB - shared)));
        }

        private static boolean areApart(int sizeA, int numberA, int sizeB, int numberB, int bound) {
            int differing = differing(sizeA, numberA, sizeB, numberB);
            // With no place that differs, the shorter row is a beginning of the other one.
            return differing > 0 && differing + Math.abs(sizeA - sizeB) >= bound;
        }
    }

    /**
     * What may stand behind a word: all rows of 0 to 2 endings. Their order is that of the phrases
     * of every word, since the word's own beats are the same in each of its phrases.
     */
    private static final class Tails {
        static final int ROOM = 1 + Tongue.MOST_ENDINGS + Tongue.MOST_ENDINGS * Tongue.MOST_ENDINGS;

        private final Rows rows = new Rows(ROOM);
        private final int[] firsts = new int[ROOM];
        private final int[] seconds = new int[ROOM];

        Tails() {
            add(0, 0, NONE, NONE);
        }

        int used() {
            return rows.used();
        }

        int size(int tail) {
            return rows.size(tail);
        }

        int number(int tail) {
            return rows.number(tail);
        }

        int endingAt(int tail, int i) {
            if (tail < 0 || tail >= rows.used()) {
                return NONE;
            }
            return i == 0 ? firsts[tail] : i == 1 ? seconds[tail] : NONE;
        }

        void remake(Rows endings) {
            rows.dropAllBehind(1);
            for (int size = 1; size <= 2 * Rows.MOST_BEATS; size++) {
                addSingles(endings, size);
                addPairs(endings, size);
            }
        }

        private void addSingles(Rows endings, int size) {
            for (int a = 0; a < endings.used(); a++) {
                if (endings.size(a) == size) {
                    add(size, endings.number(a), a, NONE);
                }
            }
        }

        private void addPairs(Rows endings, int size) {
            for (int a = 0; a < endings.used(); a++) {
                for (int b = 0; b < endings.used(); b++) {
                    if (endings.size(a) + endings.size(b) == size) {
                        add(size, endings.number(a) << endings.size(b) | endings.number(b), a, b);
                    }
                }
            }
        }

        private void add(int size, int number, int first, int second) {
            int tail = rows.used();
            if (tail >= ROOM) {
                return;
            }
            firsts[tail] = first;
            seconds[tail] = second;
            rows.add(size, number);
        }
    }

    /** Words, endings, and the phrase that was chosen for each word. */
    private static final class Tongue {
        static final int MOST_WORDS = 10;
        static final int MOST_ENDINGS = 5;
        static final int MOST_BOUND = 9;
        private static final int MOST_LOOKS = 20000;
        private static final int NO_ROW_YET = 1000000;

        private final Rows words = new Rows(MOST_WORDS);
        private final Rows endings = new Rows(MOST_ENDINGS);
        private final Tails tails = new Tails();
        private final int[] chosenTails = new int[MOST_WORDS];
        private final int[] phraseSizes = new int[MOST_WORDS];
        private final int[] phraseNumbers = new int[MOST_WORDS];
        private int bound = 1;

        private final Rows ahead = new Rows(MOST_WORDS);
        private final int[] tried = new int[MOST_WORDS];
        private final int[] best = new int[MOST_WORDS];
        private int fewest;
        private int looks;

        Tongue() {
            forgetPhrases();
        }

        int addWord(int size, int number) {
            if (words.isFull()) {
                return FULL;
            }
            words.add(size, number);
            forgetPhrases();
            return words.used() - 1;
        }

        int addEnding(int size, int number) {
            if (endings.isFull()) {
                return FULL;
            }
            endings.add(size, number);
            tails.remake(endings);
            forgetPhrases();
            return endings.used() - 1;
        }

        int changeBound(int v) {
            int was = bound;
            bound = v;
            forgetPhrases();
            return was;
        }

        int boundNow() {
            return bound;
        }

        int wordCount() {
            return words.used();
        }

        int endingCount() {
            return endings.used();
        }

        boolean isWord(int word) {
            return word >= 0 && word < words.used();
        }

        boolean hasPhrase(int word) {
            return word >= 0 && word < MOST_WORDS && chosenTails[word] != NONE;
        }

        int phraseSize(int word) {
            return hasPhrase(word) ? phraseSizes[word] : 0;
        }

        int phraseBeat(int word, int i) {
            if (!hasPhrase(word) || i < 0 || i >= phraseSizes[word]) {
                return NONE;
            }
            return phraseNumbers[word] >> (phraseSizes[word] - 1 - i) & 1;
        }

        int phraseEnding(int word, int i) {
            return hasPhrase(word) ? tails.endingAt(chosenTails[word], i) : NONE;
        }

        int phraseCount() {
            int sum = 0;
            for (int word = 0; word < words.used(); word++) {
                sum += hasPhrase(word) ? 1 : 0;
            }
            return sum;
        }

        int beatsOfAllPhrases() {
            int sum = 0;
            for (int word = 0; word < words.used(); word++) {
                sum += phraseSize(word);
            }
            return sum;
        }

        int howFar(int a, int b) {
            if (!hasPhrase(a) || !hasPhrase(b)) {
                return 0;
            }
            int sizeA = phraseSizes[a];
            int sizeB = phraseSizes[b];
            return Rows.differing(sizeA, phraseNumbers[a], sizeB, phraseNumbers[b]) + Math.abs(sizeA - sizeB);
        }

        private void forgetPhrases() {
            Arrays.fill(chosenTails, NONE);
        }

        private void give(int word, int tail) {
            chosenTails[word] = tail;
            phraseSizes[word] = sizeWith(word, tail);
            phraseNumbers[word] = numberWith(word, tail);
        }

        int chooseInTurn() {
            forgetPhrases();
            ahead.dropAllBehind(0);
            for (int word = 0; word < words.used() && word < MOST_WORDS; word++) {
                int tail = firstTailApart(word);
                if (tail != NONE) {
                    give(word, tail);
                    ahead.add(phraseSizes[word], phraseNumbers[word]);
                }
            }
            return ahead.used();
        }

        private int firstTailApart(int word) {
            for (int tail = 0; tail < tails.used(); tail++) {
                if (ahead.allApartFrom(sizeWith(word, tail), numberWith(word, tail), bound)) {
                    return tail;
                }
            }
            return NONE;
        }

        int chooseForTheLeast() {
            ahead.dropAllBehind(0);
            fewest = NO_ROW_YET;
            looks = 0;
            lookFrom(0, 0);
            if (looks > MOST_LOOKS) {
                return SPENT;
            }
            if (fewest == NO_ROW_YET) {
                return NONE;
            }
            for (int word = 0; word < words.used() && word < MOST_WORDS; word++) {
                give(word, best[word]);
            }
            return fewest;
        }

        /** Tries all phrases of this word and those behind it; the phrases ahead have that many beats. */
        private void lookFrom(int word, int beats) {
            if (word >= words.used() || word >= MOST_WORDS) {
                fewest = beats;
                System.arraycopy(tried, 0, best, 0, MOST_WORDS);
                return;
            }
            for (int tail = 0; tail < tails.used(); tail++) {
                int size = sizeWith(word, tail);
                // No later phrase of this word is shorter.
                if (beats + size >= fewest) {
                    return;
                }
                looks++;
                if (looks > MOST_LOOKS) {
                    return;
                }
                int number = numberWith(word, tail);
                if (ahead.allApartFrom(size, number, bound)) {
                    tried[word] = tail;
                    ahead.add(size, number);
                    lookFrom(word + 1, beats + size);
                    ahead.dropAllBehind(word);
                }
            }
        }

        private int sizeWith(int word, int tail) {
            return words.size(word) + tails.size(tail);
        }

        private int numberWith(int word, int tail) {
            return words.number(word) << tails.size(tail) | tails.number(tail);
        }

        long mixInto(long start) {
            long h = start;
            for (int word = 0; word < words.used(); word++) {
                int size = phraseSize(word);
                h = 31 * h + (hasPhrase(word) ? size : NONE);
                for (int i = 0; i < size; i++) {
                    h = 31 * h + phraseBeat(word, i);
                }
                h = 31 * h + phraseEnding(word, 0);
                h = 31 * h + phraseEnding(word, 1);
            }
            return h;
        }
    }

    /** The row that was heard: beats, and NONE for a gap. */
    private static final class Ear {
        static final int MOST_HEARD = 60;

        private final int[] row = new int[MOST_HEARD];
        private int used;

        int size() {
            return used;
        }

        int room() {
            return MOST_HEARD - used;
        }

        int at(int i) {
            return i >= 0 && i < used ? row[i] : NONE;
        }

        int add(int v) {
            if (used < MOST_HEARD) {
                row[used] = v;
                used++;
            }
            return used;
        }

        void change(int i, int v) {
            if (i >= 0 && i < used) {
                row[i] = v;
            }
        }

        void takeOut(int i) {
            if (i < 0 || i >= used) {
                return;
            }
            for (int j = i + 1; j < used; j++) {
                row[j - 1] = row[j];
            }
            used--;
        }

        int empty() {
            int was = used;
            used = 0;
            return was;
        }

        int gaps() {
            int sum = 0;
            for (int i = 0; i < used; i++) {
                sum += row[i] == NONE ? 1 : 0;
            }
            return sum;
        }

        long mixInto(long start) {
            long h = start;
            for (int i = 0; i < used; i++) {
                h = 31 * h + row[i];
            }
            return h;
        }
    }

    /**
     * Reads the heard as a row of words. A row of costs tells for each place 0 .. size of the heard by
     * how much the part up to that place (or the part from it on) is off from some row of words.
     */
    private static final class Reader {
        private static final int MOST_WORDS = 12;
        private static final int PLACES = Ear.MOST_HEARD + 1;
        private static final int OTHER_BEAT = 2;
        private static final int BEAT_LOST = 3;
        private static final int BEAT_TOO_MANY = 3;
        private static final int ABOVE_ALL_COSTS = 1000000;

        private final Tongue tongue;
        private final Ear ear;
        private final int[] last = new int[MOST_WORDS];
        private int lastUsed;
        private final int[] now = new int[MOST_WORDS];
        private int nowUsed;
        private int nowOff;

        private final int[][] leastFrom = new int[MOST_WORDS + 1][PLACES];
        private final int[] upTo = new int[PLACES];
        private final int[] from = new int[PLACES];
        private final int[] trial = new int[PLACES];

        Reader(Tongue tongue, Ear ear) {
            this.tongue = tongue;
            this.ear = ear;
        }

        /** Reads the heard, apart from what was read last; false if no word has a phrase. */
        boolean readNow() {
            if (tongue.phraseCount() == 0) {
                return false;
            }
            weighAllCounts();
            int words = bestCount();
            nowUsed = words;
            nowOff = leastFrom[words][0];
            spellFirstByNumbers();
            return true;
        }

        void keepAsLast() {
            System.arraycopy(now, 0, last, 0, MOST_WORDS);
            lastUsed = nowUsed;
        }

        int offNow() {
            return nowOff;
        }

        int sizeNow() {
            return nowUsed;
        }

        int lastSize() {
            return lastUsed;
        }

        int lastAt(int i) {
            return i >= 0 && i < lastUsed ? last[i] : NONE;
        }

        /** leastFrom[k]: by how much the heard from each place on is off from the best row of k words. */
        private void weighAllCounts() {
            startFrom(leastFrom[0]);
            for (int k = 1; k <= MOST_WORDS; k++) {
                Arrays.fill(leastFrom[k], ABOVE_ALL_COSTS);
                for (int word = 0; word < tongue.wordCount(); word++) {
                    if (tongue.hasPhrase(word)) {
                        copy(leastFrom[k - 1], trial);
                        putInFront(word, trial);
                        takeLower(trial, leastFrom[k]);
                    }
                }
            }
        }

        private int bestCount() {
            int best = 0;
            for (int k = 1; k <= MOST_WORDS; k++) {
                if (leastFrom[k][0] < leastFrom[best][0]) {
                    best = k;
                }
            }
            return best;
        }

        private void spellFirstByNumbers() {
            startUpTo(upTo);
            for (int i = 0; i < nowUsed && i < MOST_WORDS; i++) {
                now[i] = firstWordThatKeepsTheLeast(nowUsed - i - 1);
                putBehind(now[i], upTo);
            }
        }

        private int firstWordThatKeepsTheLeast(int wordsLeft) {
            if (wordsLeft < 0 || wordsLeft > MOST_WORDS) {
                return 0;
            }
            for (int word = 0; word < tongue.wordCount(); word++) {
                if (tongue.hasPhrase(word)) {
                    copy(upTo, trial);
                    putBehind(word, trial);
                    if (leastTogether(trial, leastFrom[wordsLeft]) == nowOff) {
                        return word;
                    }
                }
            }
            return 0;
        }

        int mostInDoubt() {
            int first = NONE;
            int least = NONE;
            for (int i = 0; i < nowUsed; i++) {
                int doubt = doubtAt(i);
                if (doubt != NONE && (first == NONE || doubt < least)) {
                    first = i;
                    least = doubt;
                }
            }
            return first;
        }

        int doubtAt(int i) {
            if (i < 0 || i >= nowUsed || i >= MOST_WORDS) {
                return NONE;
            }
            weighAround(i);
            int least = NONE;
            for (int word = 0; word < tongue.wordCount(); word++) {
                if (word != now[i] && tongue.hasPhrase(word)) {
                    copy(upTo, trial);
                    putBehind(word, trial);
                    int more = leastTogether(trial, from) - nowOff;
                    least = least == NONE ? more : Math.min(least, more);
                }
            }
            return least;
        }

        private void weighAround(int place) {
            startUpTo(upTo);
            for (int i = 0; i < place && i < MOST_WORDS; i++) {
                putBehind(now[i], upTo);
            }
            startFrom(from);
            for (int i = Math.min(nowUsed, MOST_WORDS) - 1; i > place && i >= 0; i--) {
                putInFront(now[i], from);
            }
        }

        private void startUpTo(int[] costs) {
            for (int j = 0; j <= ear.size() && j < costs.length; j++) {
                costs[j] = BEAT_TOO_MANY * j;
            }
        }

        private void startFrom(int[] costs) {
            for (int j = 0; j <= ear.size() && j < costs.length; j++) {
                costs[j] = BEAT_TOO_MANY * (ear.size() - j);
            }
        }

        private void putBehind(int word, int[] costs) {
            int size = tongue.phraseSize(word);
            for (int i = 0; i < size; i++) {
                putBeatBehind(tongue.phraseBeat(word, i), costs);
            }
        }

        private void putInFront(int word, int[] costs) {
            for (int i = tongue.phraseSize(word) - 1; i >= 0; i--) {
                putBeatInFront(tongue.phraseBeat(word, i), costs);
            }
        }

        private void putBeatBehind(int beat, int[] costs) {
            int slanted = costs.length > 0 ? costs[0] : 0;
            if (costs.length > 0) {
                costs[0] += BEAT_LOST;
            }
            for (int j = 1; j <= ear.size() && j < costs.length; j++) {
                int straight = costs[j];
                int held = slanted + costOf(ear.at(j - 1), beat);
                costs[j] = Math.min(held, Math.min(straight + BEAT_LOST, costs[j - 1] + BEAT_TOO_MANY));
                slanted = straight;
            }
        }

        private void putBeatInFront(int beat, int[] costs) {
            int end = Math.min(ear.size(), costs.length - 1);
            int slanted = end >= 0 ? costs[end] : 0;
            if (end >= 0) {
                costs[end] += BEAT_LOST;
            }
            for (int j = end - 1; j >= 0; j--) {
                int straight = costs[j];
                int held = slanted + costOf(ear.at(j), beat);
                costs[j] = Math.min(held, Math.min(straight + BEAT_LOST, costs[j + 1] + BEAT_TOO_MANY));
                slanted = straight;
            }
        }

        private static int costOf(int heard, int beat) {
            return heard == NONE || heard == beat ? 0 : OTHER_BEAT;
        }

        private int leastTogether(int[] upToPlace, int[] fromPlace) {
            int least = ABOVE_ALL_COSTS;
            for (int j = 0; j <= ear.size() && j < upToPlace.length && j < fromPlace.length; j++) {
                least = Math.min(least, upToPlace[j] + fromPlace[j]);
            }
            return least;
        }

        private void takeLower(int[] costs, int[] into) {
            for (int j = 0; j <= ear.size() && j < costs.length && j < into.length; j++) {
                into[j] = Math.min(into[j], costs[j]);
            }
        }

        private void copy(int[] costs, int[] into) {
            System.arraycopy(costs, 0, into, 0, Math.min(costs.length, into.length));
        }

        long mixInto(long start) {
            long h = start;
            for (int i = 0; i < lastUsed && i < MOST_WORDS; i++) {
                h = 31 * h + last[i];
            }
            return h;
        }
    }

    /** Six hills, the best way from one to another, and how often each step of it is drummed. */
    private static final class Hills {
        static final int HILLS = 6;
        static final int MOST_CHANCE = 1000;
        static final int MOST_HOURS = 20;
        static final int SURE = 1000000000;
        private static final int MOST_TIMES = 3;

        private final int[][] chances = new int[HILLS][HILLS];
        private final int[][] hoursBetween = new int[HILLS][HILLS];

        private final int[] path = new int[HILLS];
        private final int[] best = new int[HILLS];
        private int bestUsed;
        private long bestChance;
        private int bestHours;

        private final int[] tried = new int[HILLS];
        private final int[] enough = new int[HILLS];
        private int enoughSum;

        Hills() {
            for (int from = 0; from < HILLS; from++) {
                Arrays.fill(hoursBetween[from], 1);
            }
        }

        static boolean isHill(int hill) {
            return hill >= 0 && hill < HILLS;
        }

        static boolean arePair(int from, int to) {
            return isHill(from) && isHill(to) && from != to;
        }

        void join(int from, int to, int chance, int hours) {
            if (arePair(from, to)) {
                chances[from][to] = chance;
                hoursBetween[from][to] = hours;
            }
        }

        /** Looks for the best way; false if there is none. */
        boolean findBest(int s, int d) {
            bestUsed = 0;
            bestChance = 0;
            bestHours = 0;
            if (!arePair(s, d)) {
                return false;
            }
            path[0] = s;
            walk(1, d, SURE, 0);
            return bestUsed > 0;
        }

        int bestChance() {
            return (int) bestChance;
        }

        int bestHours() {
            return bestHours;
        }

        int bestAt(int i) {
            return i >= 0 && i < bestUsed && i < HILLS ? best[i] : NONE;
        }

        /** Goes on from the last of the hills on the path; hills in order, so the first way stays of like ones. */
        private void walk(int used, int d, long chance, int spent) {
            if (used < 1 || used > HILLS || chance <= 0) {
                return;
            }
            int at = path[used - 1];
            if (at == d) {
                keepIfBetter(used, chance, spent);
                return;
            }
            for (int next = 0; next < HILLS && used < HILLS; next++) {
                if (isHill(at) && !isOnPath(next, used)) {
                    path[used] = next;
                    walk(used + 1, d, chance * chances[at][next] / 1000, spent + hoursBetween[at][next]);
                }
            }
        }

        private boolean isOnPath(int hill, int used) {
            for (int i = 0; i < used && i < HILLS; i++) {
                if (path[i] == hill) {
                    return true;
                }
            }
            return false;
        }

        private void keepIfBetter(int used, long chance, int spent) {
            if (chance > bestChance || chance == bestChance && spent < bestHours) {
                bestChance = chance;
                bestHours = spent;
                bestUsed = used;
                System.arraycopy(path, 0, best, 0, HILLS);
            }
        }

        /** Looks for the numbers of times for the steps of the best way; false if there are none. */
        boolean findEnough(int s, int d, int c) {
            enoughSum = 0;
            if (!findBest(s, d)) {
                return false;
            }
            tryTimes(0, 0, SURE, c);
            return enoughSum > 0;
        }

        int enoughSum() {
            return enoughSum;
        }

        int enoughAt(int i) {
            return i >= 0 && i < bestUsed - 1 && i < HILLS ? enough[i] : NONE;
        }

        /** Smaller numbers first, so the first by the steps stays of like sums. */
        private void tryTimes(int step, int sum, long chance, int c) {
            if (chance < c || enoughSum > 0 && sum >= enoughSum) {
                return;
            }
            if (step >= bestUsed - 1 || step >= HILLS - 1) {
                enoughSum = sum;
                System.arraycopy(tried, 0, enough, 0, HILLS);
                return;
            }
            int thousandths = chanceBetween(best[step], best[step + 1]);
            for (int times = 1; times <= MOST_TIMES; times++) {
                tried[step] = times;
                tryTimes(step + 1, sum + times, chance * heardBy(thousandths, times) / SURE, c);
            }
        }

        private int chanceBetween(int from, int to) {
            return arePair(from, to) ? chances[from][to] : 0;
        }

        /** By how many of 1000000000 a step is heard that is drummed so often. */
        private static long heardBy(int thousandths, int times) {
            long missed = 1;
            for (int i = 0; i < MOST_TIMES; i++) {
                missed *= i < times ? 1000 - thousandths : 1000;
            }
            return SURE - missed;
        }

        long mixInto(long start) {
            long h = start;
            for (int from = 0; from < HILLS; from++) {
                for (int to = 0; to < HILLS; to++) {
                    if (from != to) {
                        h = 31 * h + chances[from][to];
                        h = 31 * h + hoursBetween[from][to];
                    }
                }
            }
            return h;
        }
    }
}
