import java.lang.reflect.Constructor;
import java.lang.reflect.Field;
import java.lang.reflect.Method;
import java.lang.reflect.Modifier;
import java.util.ArrayList;
import java.util.Collections;
import java.util.List;

/** Promises 25 and 26, and the face of the class. */
public final class WholeTest {
    private static final String[] FACE = {
        "int age(int,int)", "int beat(int,int)", "int bound(int)", "int choose()", "int count(int)",
        "int doubt(int)", "int drum(int)", "int ending(int,int)", "int endingAt(int,int)",
        "int enough(int,int,int)", "int far(int,int)", "int hear(int)", "int hill(int,int,int,int)",
        "int hush()", "int least()", "int length(int)", "int most()", "int read()", "int readAt(int)",
        "int slip(int,int)", "int times(int,int,int,int)", "int way(int,int)", "int wayAt(int,int,int)",
        "int word(int,int)", "long digest()"};

    private WholeTest() {
    }

    public static void main(String[] args) {
        constants();
        face();
        count();
        digestOfANewObject();
        digest();
        objectsStandAlone();
        Checks.finish("WholeTest");
    }

    private static void constants() {
        Checks.due("NONE", DrumTongue.NONE, -1);
        Checks.due("BAD", DrumTongue.BAD, -2);
        Checks.due("NO", DrumTongue.NO, -3);
        Checks.due("FULL", DrumTongue.FULL, -4);
        Checks.due("SPENT", DrumTongue.SPENT, -5);
    }

    private static void face() {
        Class<?> face = DrumTongue.class;
        Checks.dueThat("public and final", Modifier.isPublic(face.getModifiers()) && Modifier.isFinal(face.getModifiers()));
        List<String> methods = new ArrayList<>();
        for (Method m : face.getDeclaredMethods()) {
            if (!Modifier.isPrivate(m.getModifiers())) {
                String told = m.toString().replace("public ", "").replace("DrumTongue.", "");
                methods.add(told);
            }
        }
        Collections.sort(methods);
        List<String> due = new ArrayList<>(List.of(FACE));
        Collections.sort(due);
        Checks.dueThat("methods " + methods, methods.equals(due));
        int fields = 0;
        for (Field f : face.getDeclaredFields()) {
            fields += Modifier.isPrivate(f.getModifiers()) ? 0 : 1;
        }
        Checks.due("constants of the face", fields, 5);
        Constructor<?>[] made = face.getDeclaredConstructors();
        Checks.due("constructors", made.length, 1);
        Checks.due("arguments of it", made[0].getParameterCount(), 0);
        Checks.dueThat("public constructor", Modifier.isPublic(made[0].getModifiers()));
    }

    /** Phrases 1, 01 and none; heard 1 ? 1 0, of which 1 ? 1 was read as words 0 and 1. */
    private static DrumTongue busy() {
        DrumTongue x = new DrumTongue();
        x.ending(1, 1);
        x.ending(1, 0);
        x.word(1, 1);
        x.word(1, 0);
        x.word(1, 1);
        x.bound(2);
        Checks.due("choose()", x.choose(), 2);
        x.drum(0);
        x.drum(1);
        x.slip(1, -1);
        Checks.due("read() of 1 ? 1", x.read(), 0);
        x.hear(0);
        x.hill(0, 1, 900, 2);
        x.hill(5, 4, 7, 20);
        return x;
    }

    private static void count() {
        DrumTongue x = busy();
        int[] due = {3, 2, 2, 2, 3, 4, 1, 2};
        for (int what = 0; what < due.length; what++) {
            Checks.due("count(" + what + ")", x.count(what), due[what]);
        }
        for (int what : new int[] {8, 9, -1, Integer.MAX_VALUE, Integer.MIN_VALUE}) {
            Checks.due("count(" + what + ")", x.count(what), DrumTongue.BAD);
        }
        x.slip(1, 2);
        Checks.due("heard behind slip()", x.count(5), 3);
        Checks.due("gaps behind slip()", x.count(6), 0);
        x.slip(0, -1);
        Checks.due("gaps behind slip()", x.count(6), 1);
        x.hush();
        Checks.due("words read behind hush()", x.count(7), 2);
        x.read();
        Checks.due("words read of nothing", x.count(7), 0);
        x.bound(2);
        Checks.due("phrases behind bound()", x.count(3), 0);
        Checks.due("their beats", x.count(4), 0);
    }

    private static long mix(long h, int... values) {
        long mixed = h;
        for (int v : values) {
            mixed = 31 * mixed + v;
        }
        return mixed;
    }

    private static void digestOfANewObject() {
        long h = mix(241, 0, 0, 1, 0, 0, 0, 0, 0);
        for (int i = 0; i < 30; i++) {
            h = mix(h, 0, 1);
        }
        Checks.due("digest of a new object", new DrumTongue().digest(), h);
    }

    private static void digest() {
        long h = mix(241, 3, 2, 2, 2, 3, 4, 1, 2);
        h = mix(h, 1, 1, -1, -1);
        h = mix(h, 2, 0, 1, 0, -1);
        h = mix(h, -1, -1, -1);
        h = mix(h, 1, -1, 1, 0);
        h = mix(h, 0, 1);
        for (int from = 0; from < 6; from++) {
            for (int to = 0; to < 6; to++) {
                if (from == 0 && to == 1) {
                    h = mix(h, 900, 2);
                } else if (from == 5 && to == 4) {
                    h = mix(h, 7, 20);
                } else if (from != to) {
                    h = mix(h, 0, 1);
                }
            }
        }
        DrumTongue x = busy();
        Checks.due("digest", x.digest(), h);
        Checks.due("digest again", x.digest(), h);
    }

    private static void objectsStandAlone() {
        DrumTongue x = busy();
        long before = x.digest();
        DrumTongue y = busy();
        y.word(2, 2);
        y.hill(0, 1, 1, 1);
        y.hush();
        Checks.due("digest of x behind calls of y", x.digest(), before);
    }
}
