/** Promises 19 to 24: hills, the best way, and how often each step of it is drummed. */
public final class HillsTest {
    private static final int NONE = DrumTongue.NONE;
    private static final int BAD = DrumTongue.BAD;
    private static final int SURE = 1000000000;
    private static final int MAX = Integer.MAX_VALUE;
    private static final int MIN = Integer.MIN_VALUE;

    private HillsTest() {
    }

    public static void main(String[] args) {
        hill();
        noWay();
        wayByChance();
        wayByHours();
        wayByHills();
        wayIsCutStepByStep();
        wayThatIsCutToNothing();
        wayRefused();
        enough();
        enoughTakesTheFirstBySteps();
        enoughIsCut();
        enoughThatIsNot();
        enoughRefused();
        Checks.finish("HillsTest");
    }

    private static void dueWay(DrumTongue x, int s, int d, int chance, int hours, int... hills) {
        String pair = "(" + s + ", " + d + ")";
        Checks.due("way" + pair, x.way(s, d), chance);
        Checks.due("age" + pair, x.age(s, d), hours);
        for (int i = 0; i < hills.length; i++) {
            Checks.due("wayAt" + pair + " " + i, x.wayAt(s, d, i), hills[i]);
        }
        for (int i : new int[] {hills.length, 6, -1, MAX, MIN}) {
            Checks.due("wayAt" + pair + " " + i, x.wayAt(s, d, i), NONE);
        }
    }

    private static void dueTimes(DrumTongue x, int s, int d, int c, int... times) {
        String call = "(" + s + ", " + d + ", " + c + ")";
        int sum = 0;
        for (int i = 0; i < times.length; i++) {
            Checks.due("times" + call + " " + i, x.times(s, d, c, i), times[i]);
            sum += times[i];
        }
        Checks.due("enough" + call, x.enough(s, d, c), sum);
        for (int i : new int[] {times.length, 5, 6, -1, MAX, MIN}) {
            Checks.due("times" + call + " " + i, x.times(s, d, c, i), NONE);
        }
    }

    private static void hill() {
        DrumTongue x = new DrumTongue();
        Checks.due("hill(0, 5, 1000, 20)", x.hill(0, 5, 1000, 20), 1);
        Checks.due("hill(5, 0, 0, 1)", x.hill(5, 0, 0, 1), 1);
        Checks.due("hill(5, 4, 1, 20)", x.hill(5, 4, 1, 20), 1);
        long before = x.digest();
        int[][] bad = {{0, 0, 1, 1}, {5, 5, 1, 1}, {6, 0, 1, 1}, {0, 6, 1, 1}, {-1, 0, 1, 1}, {0, -1, 1, 1},
            {0, 1, -1, 1}, {0, 1, 1001, 1}, {0, 1, 1, 0}, {0, 1, 1, 21}, {0, 1, 1, -1}, {MAX, 0, 1, 1},
            {0, MIN, 1, 1}, {0, 1, MAX, 1}, {0, 1, MIN, 1}, {0, 1, 1, MAX}, {0, 1, 1, MIN}};
        for (int[] b : bad) {
            String call = "hill(" + b[0] + ", " + b[1] + ", " + b[2] + ", " + b[3] + ")";
            Checks.dueAndNothingChanged(x, before, call, x.hill(b[0], b[1], b[2], b[3]), BAD);
        }
        // One way only: what 0 hears of 5 is another thing. And the last word holds.
        dueWay(x, 0, 5, SURE, 20, 0, 5);
        Checks.due("way(5, 0)", x.way(5, 0), NONE);
        Checks.due("hill again", x.hill(0, 5, 500, 7), 1);
        dueWay(x, 0, 5, SURE / 2, 7, 0, 5);
        Checks.due("hill to nothing", x.hill(0, 5, 0, 7), 1);
        Checks.due("way to nothing", x.way(0, 5), NONE);
    }

    private static void noWay() {
        DrumTongue x = new DrumTongue();
        for (int s = 0; s < 6; s++) {
            for (int d = 0; d < 6; d++) {
                int due = s == d ? BAD : NONE;
                Checks.due("way of a new object", x.way(s, d), due);
                Checks.due("wayAt of a new object", x.wayAt(s, d, 0), due);
                Checks.due("age of a new object", x.age(s, d), due);
                Checks.due("enough of a new object", x.enough(s, d, 1), due);
                Checks.due("times of a new object", x.times(s, d, 1, 0), due);
            }
        }
    }

    private static void wayByChance() {
        DrumTongue x = new DrumTongue();
        x.hill(0, 1, 800, 1);
        x.hill(0, 4, 950, 20);
        x.hill(4, 3, 950, 20);
        x.hill(3, 1, 900, 20);
        // 950 by 950 by 900 is above 800, however many hours.
        dueWay(x, 0, 1, 812250000, 60, 0, 4, 3, 1);
        dueWay(x, 0, 3, 902500000, 40, 0, 4, 3);
        x.hill(0, 1, 813, 9);
        dueWay(x, 0, 1, 813000000, 9, 0, 1);
        // All six hills.
        DrumTongue y = new DrumTongue();
        int[] hills = {2, 5, 0, 4, 1, 3};
        for (int i = 0; i + 1 < hills.length; i++) {
            y.hill(hills[i], hills[i + 1], 1000, 20);
        }
        dueWay(y, 2, 3, SURE, 100, hills);
    }

    private static void wayByHours() {
        DrumTongue x = new DrumTongue();
        x.hill(0, 1, 900, 1);
        x.hill(1, 5, 800, 8);
        x.hill(0, 4, 800, 1);
        x.hill(4, 5, 900, 7);
        dueWay(x, 0, 5, 720000000, 8, 0, 4, 5);
        x.hill(1, 5, 800, 7);
        dueWay(x, 0, 5, 720000000, 8, 0, 1, 5);
        x.hill(0, 5, 720, 7);
        dueWay(x, 0, 5, 720000000, 7, 0, 5);
    }

    private static void wayByHills() {
        DrumTongue x = new DrumTongue();
        x.hill(0, 5, 1000, 3);
        x.hill(0, 1, 1000, 1);
        x.hill(1, 5, 1000, 2);
        x.hill(0, 2, 1000, 1);
        x.hill(2, 1, 1000, 1);
        dueWay(x, 0, 5, SURE, 3, 0, 1, 5);
        // The first by hills, not the one with the fewest.
        x.hill(1, 2, 1000, 1);
        x.hill(2, 5, 1000, 1);
        x.hill(0, 5, 1000, 2);
        dueWay(x, 0, 5, SURE, 2, 0, 2, 5);
        x.hill(1, 5, 1000, 1);
        dueWay(x, 0, 5, SURE, 2, 0, 1, 5);
    }

    private static void wayIsCutStepByStep() {
        DrumTongue x = new DrumTongue();
        for (int i = 0; i < 5; i++) {
            x.hill(i, i + 1, 333, i + 1);
        }
        dueWay(x, 0, 3, 36926037, 6, 0, 1, 2, 3);
        dueWay(x, 0, 4, 12296370, 10, 0, 1, 2, 3, 4);
        dueWay(x, 0, 5, 4094691, 15, 0, 1, 2, 3, 4, 5);
        // Cut only at the end the last one were 20.
        DrumTongue y = new DrumTongue();
        y.hill(0, 1, 1, 1);
        y.hill(1, 2, 7, 1);
        y.hill(2, 3, 999, 1);
        y.hill(3, 4, 3, 1);
        y.hill(4, 5, 999, 1);
        dueWay(y, 0, 3, 6993, 3, 0, 1, 2, 3);
        dueWay(y, 0, 4, 20, 4, 0, 1, 2, 3, 4);
        dueWay(y, 0, 5, 19, 5, 0, 1, 2, 3, 4, 5);
    }

    private static void wayThatIsCutToNothing() {
        DrumTongue x = new DrumTongue();
        for (int i = 0; i < 5; i++) {
            x.hill(i, i + 1, 1, 1);
        }
        dueWay(x, 0, 3, 1, 3, 0, 1, 2, 3);
        Checks.due("way(0, 4)", x.way(0, 4), NONE);
        Checks.due("wayAt(0, 4, 0)", x.wayAt(0, 4, 0), NONE);
        Checks.due("age(0, 4)", x.age(0, 4), NONE);
        Checks.due("enough(0, 4, 1)", x.enough(0, 4, 1), NONE);
        Checks.due("times(0, 4, 1, 0)", x.times(0, 4, 1, 0), NONE);
    }

    private static void wayRefused() {
        DrumTongue x = new DrumTongue();
        x.hill(0, 1, 1000, 1);
        int[][] bad = {{0, 0}, {5, 5}, {6, 0}, {0, 6}, {-1, 0}, {0, -1}, {MAX, 0}, {0, MIN}, {MIN, MIN}};
        for (int[] b : bad) {
            String pair = "(" + b[0] + ", " + b[1] + ")";
            Checks.due("way" + pair, x.way(b[0], b[1]), BAD);
            Checks.due("wayAt" + pair, x.wayAt(b[0], b[1], 0), BAD);
            Checks.due("wayAt" + pair + " -1", x.wayAt(b[0], b[1], -1), BAD);
            Checks.due("age" + pair, x.age(b[0], b[1]), BAD);
            Checks.due("enough" + pair, x.enough(b[0], b[1], 1), BAD);
            Checks.due("times" + pair, x.times(b[0], b[1], 1, 0), BAD);
        }
    }

    private static void enough() {
        DrumTongue x = new DrumTongue();
        x.hill(0, 1, 720, 1);
        // 1 - 0.28, 1 - 0.28 by 0.28, 1 - 0.28 by 0.28 by 0.28.
        dueTimes(x, 0, 1, 1, 1);
        dueTimes(x, 0, 1, 720000000, 1);
        dueTimes(x, 0, 1, 720000001, 2);
        dueTimes(x, 0, 1, 921600000, 2);
        dueTimes(x, 0, 1, 921600001, 3);
        dueTimes(x, 0, 1, 978048000, 3);
        Checks.due("enough(0, 1, 978048001)", x.enough(0, 1, 978048001), NONE);
        Checks.due("times(0, 1, 978048001, 0)", x.times(0, 1, 978048001, 0), NONE);
        x.hill(0, 1, 1000, 1);
        dueTimes(x, 0, 1, SURE, 1);
        x.hill(0, 1, 1, 1);
        dueTimes(x, 0, 1, 1000001, 2);
        dueTimes(x, 0, 1, 1999000, 2);
        dueTimes(x, 0, 1, 2997001, 3);
        Checks.due("enough(0, 1, 2997002)", x.enough(0, 1, 2997002), NONE);
    }

    private static void enoughTakesTheFirstBySteps() {
        DrumTongue x = new DrumTongue();
        x.hill(0, 1, 900, 1);
        x.hill(1, 2, 900, 1);
        dueTimes(x, 0, 2, 810000000, 1, 1);
        dueTimes(x, 0, 2, 810000001, 1, 2);
        dueTimes(x, 0, 2, 891000000, 1, 2);
        dueTimes(x, 0, 2, 899100000, 1, 3);
        dueTimes(x, 0, 2, 899100001, 2, 2);
        dueTimes(x, 0, 2, 980100001, 2, 3);
        dueTimes(x, 0, 2, 989010001, 3, 3);
        dueTimes(x, 0, 2, 998001000, 3, 3);
        // The least sum goes ahead of the first by steps: 3 for the weak step alone.
        DrumTongue y = new DrumTongue();
        y.hill(0, 1, 500, 1);
        y.hill(1, 2, 1000, 1);
        y.hill(2, 3, 999, 1);
        dueTimes(y, 0, 3, 870000000, 3, 1, 1);
        dueTimes(y, 0, 3, 874999000, 3, 1, 2);
        // 1 and 2 are 782000000, 1 and 3 are 797300000: first by the steps, but 2 and 1 are fewer.
        DrumTongue z = new DrumTongue();
        z.hill(0, 1, 800, 1);
        z.hill(1, 2, 850, 1);
        dueTimes(z, 0, 2, 782000000, 1, 2);
        dueTimes(z, 0, 2, 790000000, 2, 1);
        dueTimes(z, 0, 2, 816000000, 2, 1);
        dueTimes(z, 0, 2, 816000001, 2, 2);
    }

    private static void enoughIsCut() {
        DrumTongue x = new DrumTongue();
        x.hill(0, 1, 333, 1);
        x.hill(1, 2, 333, 1);
        x.hill(2, 3, 333, 1);
        x.hill(3, 4, 333, 1);
        // 0.333 to the fourth is 12296370.321.
        dueTimes(x, 0, 4, 12296370, 1, 1, 1, 1);
        dueTimes(x, 0, 4, 12296371, 1, 1, 1, 2);
    }

    private static void enoughThatIsNot() {
        DrumTongue x = new DrumTongue();
        x.hill(0, 1, 999, 1);
        Checks.due("enough(0, 1, 999999999)", x.enough(0, 1, 999999999), 3);
        Checks.due("enough(0, 1, SURE)", x.enough(0, 1, SURE), NONE);
        Checks.due("times(0, 1, SURE, 0)", x.times(0, 1, SURE, 0), NONE);
        Checks.due("enough(1, 0, 1)", x.enough(1, 0, 1), NONE);
        Checks.due("times(1, 0, 1, 0)", x.times(1, 0, 1, 0), NONE);
        // It is the best way that is drummed more often, not one that then were better.
        DrumTongue y = new DrumTongue();
        y.hill(0, 2, 500, 1);
        y.hill(0, 1, 710, 1);
        y.hill(1, 2, 710, 1);
        dueWay(y, 0, 2, 504100000, 2, 0, 1, 2);
        Checks.due("enough(0, 2, 875000000)", y.enough(0, 2, 875000000), 5);
        dueTimes(y, 0, 2, 875000000, 2, 3);
    }

    private static void enoughRefused() {
        DrumTongue x = new DrumTongue();
        x.hill(0, 1, 1000, 1);
        long before = x.digest();
        for (int c : new int[] {0, -1, SURE + 1, MAX, MIN}) {
            Checks.dueAndNothingChanged(x, before, "enough(0, 1, " + c + ")", x.enough(0, 1, c), BAD);
            Checks.due("times(0, 1, " + c + ", 0)", x.times(0, 1, c, 0), BAD);
            Checks.due("enough(1, 0, " + c + ")", x.enough(1, 0, c), BAD);
            Checks.due("times(1, 0, " + c + ", 9)", x.times(1, 0, c, 9), BAD);
        }
    }
}
