/** Promises 22 to 27: see, ages, testNext, write, tear, judge. */
public final class SeenTest {
    private static final Due due = new Due();

    public static void main(String[] args) {
        see();
        ages();
        testNext();
        write();
        tear();
        judge();
        due.end("SeenTest");
    }

    private static void see() {
        EggThrones x = new EggThrones();
        String before = Due.allOf(x);
        int[][] outside = {{0, 0}, {10, 0}, {1, -1}, {1, 31}, {-1, 5}};
        for (int[] pair : outside) {
            due.is("see(" + pair[0] + ", " + pair[1] + ")", x.see(pair[0], pair[1]), Due.OUTSIDE);
        }
        for (int far : Due.FAR) {
            due.is("see(" + far + ", 0)", x.see(far, 0), Due.OUTSIDE);
            due.is("see(1, " + far + ")", x.see(1, far), Due.OUTSIDE);
        }
        due.same("refused", Due.allOf(x), before);
        for (int i = 1; i <= 6; i++) {
            due.is("see(9, 0)", x.see(9, 0), i);
        }
        due.is("a seventh", x.see(1, 30), Due.FULL);
        due.is("a seventh, and outside", x.see(1, 31), Due.OUTSIDE);
        due.is("told(15)", x.told(15), 6);
        due.is("ages() without the seventh", x.ages(), 511);
    }

    private static void ages() {
        for (int t = 1; t <= 9; t++) {
            for (int a = 0; a <= 30; a++) {
                EggThrones x = new EggThrones();
                x.see(t, a);
                int want = 0;
                for (int age = 0; age <= 30; age++) {
                    want += age >= t * a && age < t * (a + 1) ? 1 << age : 0;
                }
                due.is("ages() behind see(" + t + ", " + a + ")", x.ages(), want);
            }
        }
        EggThrones x = Due.toldOf(Due.USUAL);
        x.see(9, 3);
        due.is("27 to 30", x.ages(), 15 << 27);
        x.see(2, 14);
        due.is("28 and 29", x.ages(), 3 << 28);
        x.see(5, 6);
        due.is("none", x.ages(), 0);
        x.minute(1);
        x.undo();
        due.is("undo() leaves what is seen", x.ages(), 0);
    }

    private static void testNext() {
        EggThrones x = new EggThrones();
        due.is("all ages", x.testNext(), 1);
        x.see(2, 3);
        due.is("6 and 7", x.testNext(), 1);
        x.see(7, 1);
        due.is("7 alone", x.testNext(), Due.NONE);
        x.see(1, 3);
        due.is("no age", x.testNext(), Due.NONE);
        for (int age = 0; age <= 30; age++) {
            x.tear();
            x.see(1, age);
            due.is("the one age " + age, x.testNext(), Due.NONE);
        }
        x.tear();
        due.is("all ages again", x.testNext(), 1);
    }

    private static void write() {
        EggThrones x = Due.toldOf(Due.USUAL);
        String before = Due.allOf(x);
        due.is("write(4, 0)", x.write(4, 0), Due.UNKNOWN);
        due.is("write(-1, 9)", x.write(-1, 9), Due.UNKNOWN);
        due.is("write(0, 6)", x.write(0, 6), Due.OUTSIDE);
        due.is("write(0, -1)", x.write(0, -1), Due.OUTSIDE);
        for (int far : Due.FAR) {
            due.is("write(" + far + ", 0)", x.write(far, 0), Due.UNKNOWN);
            due.is("write(0, " + far + ")", x.write(0, far), Due.OUTSIDE);
        }
        due.same("refused", Due.allOf(x), before);
        for (int i = 1; i <= 15; i++) {
            due.is("write(3, 0)", x.write(3, 0), i);
        }
        due.is("a sixteenth", x.write(3, 5), Due.FULL);
        due.is("a sixteenth, outside", x.write(3, 6), Due.OUTSIDE);
        due.is("a sixteenth, unknown", x.write(4, 6), Due.UNKNOWN);
        due.is("told(16)", x.told(16), 15);
        due.is("judge() without the sixteenth", x.judge(), Due.NONE);
    }

    private static void tear() {
        EggThrones x = Due.toldOf(Due.USUAL);
        due.is("tear() of nothing", x.tear(), 0);
        x.see(1, 1);
        x.see(1, 2);
        x.write(0, 5);
        x.write(1, 0);
        x.write(2, 0);
        due.is("tear()", x.tear(), 5);
        due.is("told(15)", x.told(15), 0);
        due.is("told(16)", x.told(16), 0);
        due.is("ages()", x.ages(), Integer.MAX_VALUE);
        due.is("judge()", x.judge(), Due.NONE);
        due.is("tear() again", x.tear(), 0);
        due.is("see() anew", x.see(3, 3), 1);
        due.is("write() anew", x.write(0, 0), 1);
    }

    private static void judge() {
        EggThrones x = Due.toldOf("p2 40 3;e3 1;e10 2;e0 3;e30 5;");
        due.is("an empty book", x.judge(), Due.NONE);
        x.write(3, 0);
        x.write(0, 1);
        x.write(3, 2);
        due.is("the second entry, of egg 0", x.judge(), 1);
        x.put(0);
        due.is("the third entry, of egg 3", x.judge(), 2);
        x.put(3);
        due.is("the first entry, of egg 3", x.judge(), 0);
        x.undo();
        due.is("undone", x.judge(), 2);
        x.tear();
        int[] states = {0, 1, 2, 3, 4};
        for (int state : states) {
            x.tear();
            x.write(1, state);
            due.is("egg 1 is not yet " + state, x.judge(), x.egg(1, 2) == state ? Due.NONE : 0);
            if (state == 1) {
                x.put(1);
            } else if (state == 2) {
                x.takeOut(1);
            } else if (state == 3) {
                x.crown(1);
            } else if (state == 4) {
                x.minute(3);
            }
            due.is("egg 1 is " + state, x.judge(), Due.NONE);
        }
        x.tear();
        x.write(0, 5);
        due.is("egg 0 cracked, at three minutes not", x.judge(), 0);
        x.minute(1);
        due.is("egg 0 cracked", x.judge(), Due.NONE);
    }
}
