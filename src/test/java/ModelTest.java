/** Long runs of calls, always the same ones, answered by the class and by PlainTongue. */
public final class ModelTest {
    private static final int RUNS = 240;
    private static final int CALLS = 512;
    private static final int[] EDGES = {-1, -2, -3, 6, 7, 9, 10, 11, 12, 13, 60, 64, 1000, 1001, 1000000000,
        1000000001, Integer.MAX_VALUE, Integer.MIN_VALUE};

    private long state;
    private DrumTongue x;
    private PlainTongue plain;

    private ModelTest(long seed) {
        state = seed;
        x = new DrumTongue();
        plain = new PlainTongue();
    }

    public static void main(String[] args) {
        for (int run = 0; run < RUNS && Checks.wrong() == 0; run++) {
            new ModelTest(run).longRun(run);
        }
        for (int run = 0; run < 400 && Checks.wrong() == 0; run++) {
            new ModelTest(100000 + run).shortReading(run);
        }
        Checks.finish("ModelTest");
    }

    private int below(int n) {
        state = state * 6364136223846793005L + 1442695040888963407L;
        return (int) ((state >>> 33) % n);
    }

    /** Most often below n, now and then a number that is not as told. */
    private int number(int n) {
        return below(25) == 0 ? EDGES[below(EDGES.length)] : below(n);
    }

    private void same(int run, int call, String name, long got, long want) {
        Checks.due("run " + run + ", call " + call + ": " + name, got, want);
    }

    private void longRun(int run) {
        int endings = below(6);
        int words = 1 + below(10);
        int longest = 1 + below(6);
        int calls = 0;
        for (int i = 0; i < endings; i++) {
            addRow(run, calls++, false, longest);
        }
        for (int i = 0; i < words; i++) {
            addRow(run, calls++, true, longest);
        }
        int v = 1 + below(below(9) + 1);
        same(run, calls++, "bound " + v, x.bound(v), plain.bound(v));
        while (calls < CALLS && Checks.wrong() == 0) {
            anyCall(run, calls);
            calls++;
            if (below(8) == 0) {
                same(run, calls++, "digest", x.digest(), plain.digest());
            }
        }
    }

    private void addRow(int run, int call, boolean word, int longest) {
        int n = below(30) == 0 ? number(7) : 1 + below(longest);
        int bits = below(30) == 0 ? number(65) : below(1 << Math.max(1, Math.min(6, n)));
        if (word) {
            same(run, call, "word " + n + " " + bits, x.word(n, bits), plain.word(n, bits));
        } else {
            same(run, call, "ending " + n + " " + bits, x.ending(n, bits), plain.ending(n, bits));
        }
    }

    private void anyCall(int run, int call) {
        int kind = below(100);
        if (kind < 6) {
            chooseCall(run, call);
        } else if (kind < 25) {
            wordCall(run, call);
        } else if (kind < 60) {
            heardCall(run, call);
        } else if (kind < 75) {
            readCall(run, call);
        } else if (kind < 99) {
            hillCall(run, call);
        } else {
            rareCall(run, call);
        }
    }

    private void rareCall(int run, int call) {
        int kind = below(12);
        if (kind < 2) {
            addRow(run, call, kind == 0, 6);
        } else if (kind < 5) {
            int v = number(10);
            same(run, call, "bound " + v, x.bound(v), plain.bound(v));
        } else if (kind < 6) {
            same(run, call, "hush", x.hush(), plain.hush());
        } else {
            int what = number(9);
            same(run, call, "count " + what, x.count(what), plain.count(what));
        }
    }

    private void chooseCall(int run, int call) {
        if (below(3) == 0) {
            same(run, call, "least", x.least(), plain.least());
        } else {
            same(run, call, "choose", x.choose(), plain.choose());
        }
    }

    private void wordCall(int run, int call) {
        int a = number(11);
        int b = number(11);
        int i = number(19);
        switch (below(4)) {
            case 0: same(run, call, "length " + a, x.length(a), plain.length(a)); break;
            case 1: same(run, call, "beat " + a + " " + i, x.beat(a, i), plain.beat(a, i)); break;
            case 2: same(run, call, "endingAt " + a + " " + i, x.endingAt(a, i % 4), plain.endingAt(a, i % 4)); break;
            default: same(run, call, "far " + a + " " + b, x.far(a, b), plain.far(a, b)); break;
        }
    }

    private void heardCall(int run, int call) {
        int kind = below(10);
        if (kind < 4) {
            int v = below(3) - 1 == 0 ? number(3) - 1 : below(3) - 1;
            same(run, call, "hear " + v, x.hear(v), plain.hear(v));
        } else if (kind < 7) {
            int word = number(10);
            same(run, call, "drum " + word, x.drum(word), plain.drum(word));
        } else {
            int i = number(Math.max(1, plain.count(5)));
            int v = below(10) == 0 ? number(4) - 1 : below(4) - 1;
            same(run, call, "slip " + i + " " + v, x.slip(i, v), plain.slip(i, v));
        }
    }

    private void readCall(int run, int call) {
        int i = number(12);
        int kind = below(10);
        if (kind < 4) {
            same(run, call, "read", x.read(), plain.read());
        } else if (kind < 6) {
            same(run, call, "readAt " + i, x.readAt(i), plain.readAt(i));
        } else if (kind < 8) {
            i = below(3) == 0 ? i : below(Math.max(1, plain.count(7)));
            same(run, call, "doubt " + i, x.doubt(i), plain.doubt(i));
        } else {
            same(run, call, "most", x.most(), plain.most());
        }
    }

    private void hillCall(int run, int call) {
        int s = number(6);
        int d = number(6);
        int i = number(6);
        int c = below(20) == 0 ? number(10) : 1 + below(1000) * 999999;
        String pair = " " + s + " " + d + " ";
        switch (below(9)) {
            case 0: case 1: case 2: case 3: joinCall(run, call, s, d); break;
            case 4: same(run, call, "way" + pair, x.way(s, d), plain.way(s, d)); break;
            case 5: same(run, call, "wayAt" + pair + i, x.wayAt(s, d, i), plain.wayAt(s, d, i)); break;
            case 6: same(run, call, "age" + pair, x.age(s, d), plain.age(s, d)); break;
            case 7: same(run, call, "enough" + pair + c, x.enough(s, d, c), plain.enough(s, d, c)); break;
            default: same(run, call, "times" + pair + c + " " + i, x.times(s, d, c, i), plain.times(s, d, c, i));
        }
    }

    /** Round thousandths and few hours, so that like ways are not rare. */
    private void joinCall(int run, int call, int s, int d) {
        int[] round = {0, 1000, 900, 810, 500, 250, 999, 1, 3};
        int thousandths = below(2) == 0 ? round[below(round.length)] : number(1001);
        int h = below(3) == 0 ? number(21) : 1 + below(3);
        same(run, call, "hill " + s + " " + d + " " + thousandths + " " + h,
            x.hill(s, d, thousandths, h), plain.hill(s, d, thousandths, h));
    }

    /** A few words and little that was heard, read by all rows that there are. */
    private void shortReading(int run) {
        int words = 1 + below(3);
        for (int i = 0; i < words; i++) {
            addRow(run, i, true, 1 + below(4));
        }
        same(run, 10, "choose", x.choose(), plain.choose());
        if (plain.count(3) == 0) {
            return;
        }
        int n = below(8);
        for (int i = 0; i < n; i++) {
            int v = below(3) - 1;
            same(run, 11 + i, "hear", x.hear(v), plain.hear(v));
        }
        PlainTongue.Reading all = plain.readByAllRows();
        same(run, 20, "read of " + n, x.read(), all.off);
        same(run, 21, "words", x.count(7), all.words.size());
        for (int i = 0; i < all.words.size(); i++) {
            same(run, 22 + i, "readAt " + i, x.readAt(i), all.words.get(i));
        }
    }
}
