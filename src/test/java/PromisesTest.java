/** Each promise by hand: ordinary inputs, the edges that the document names, wrong inputs. */
public final class PromisesTest {
    private static final Class<?> INDEX = IndexOutOfBoundsException.class;
    private static final Class<?> ARGUMENT = IllegalArgumentException.class;
    private static final Class<?> STATE = IllegalStateException.class;
    private static final int LOW = Integer.MIN_VALUE;
    private static final int HIGH = Integer.MAX_VALUE;

    private static int wrong = 0;
    private static int promise = 0;

    private interface Call {
        void go();
    }

    public static void main(String[] args) {
        Call[] promises = {PromisesTest::aNewObject, PromisesTest::wall, PromisesTest::thing, PromisesTest::door,
            PromisesTest::room, PromisesTest::patience, PromisesTest::arrives, PromisesTest::run, PromisesTest::at,
            PromisesTest::about, PromisesTest::crowd, PromisesTest::stayed, PromisesTest::through, PromisesTest::seen,
            PromisesTest::far, PromisesTest::escape, PromisesTest::counted, PromisesTest::sum, PromisesTest::fit,
            PromisesTest::interest, PromisesTest::count};
        for (Call one : promises) {
            promise++;
            one.go();
        }
        promise = 0;
        choosing();
        steps();
        groups();
        System.out.println(wrong == 0 ? "all promises hold" : wrong + " answers are not as due");
        if (wrong != 0) {
            System.exit(1);
        }
    }

    private static void due(String what, long got, long want) {
        if (got != want) {
            wrong++;
            System.out.println("promise " + promise + ": " + what + " answered " + got + ", due is " + want);
        }
    }

    private static void due(String what, boolean got, boolean want) {
        due(what, got ? 1 : 0, want ? 1 : 0);
    }

    private static void dueThrow(String what, Class<?> kind, Call call) {
        Class<?> thrown = null;
        try {
            call.go();
        } catch (RuntimeException e) {
            thrown = e.getClass();
        }
        if (thrown != kind) {
            wrong++;
            System.out.println("promise " + promise + ": " + what + " threw " + thrown + ", due is " + kind);
        }
    }

    /** 4 x 4, a door at 0 0, a thing at 3 0 that takes two seconds, and one visitor at second 0. */
    private static VisitorSteps smallHouse() {
        VisitorSteps x = new VisitorSteps(4, 4, 0);
        x.door(0, 0);
        x.thing(3, 0, 10, 2);
        x.arrives(0, 0, 0);
        return x;
    }

    /** All that can be asked of a small house, to see that a call changed nothing. */
    private static String picture(VisitorSteps x) {
        StringBuilder s = new StringBuilder();
        for (int what = 0; what < 6; what++) {
            s.append(x.count(what)).append(' ');
        }
        for (int v = 0; v < x.count(3); v++) {
            s.append("v ").append(x.at(v, 0)).append(' ').append(x.at(v, 1)).append(' ');
            s.append(x.about(v, 0)).append(' ').append(x.about(v, 1)).append(' ').append(x.about(v, 2)).append(' ');
        }
        for (int t = 0; t < x.count(1); t++) {
            s.append("t ").append(x.seen(t)).append(' ').append(x.interest(t)).append(' ').append(x.far(0, 0, t)).append(' ');
        }
        for (int d = 0; d < x.count(2); d++) {
            s.append("d ").append(x.through(d, true)).append(' ').append(x.through(d, false)).append(' ');
        }
        for (int i = 0; i < 16; i++) {
            s.append(x.crowd(i % 4, i / 4)).append(' ').append(x.stayed(i % 4, i / 4)).append(' ');
        }
        return s.toString();
    }

    private static void dueSame(String what, String before, VisitorSteps x) {
        if (!before.equals(picture(x))) {
            wrong++;
            System.out.println("promise " + promise + ": " + what + " changed " + before + " to " + picture(x));
        }
    }

    private static void aNewObject() {
        int[][] sizes = {{4, 12, 4, 12}, {LOW, HIGH, 4, 12}, {3, 13, 4, 12}, {7, 5, 7, 5}, {HIGH, LOW, 12, 4}};
        for (int[] s : sizes) {
            VisitorSteps x = new VisitorSteps(s[0], s[1], 1);
            due("a corner", x.crowd(s[2] - 1, s[3] - 1), 0);
            dueThrow("behind the width", INDEX, () -> x.crowd(s[2], 0));
            dueThrow("behind the height", INDEX, () -> x.crowd(0, s[3]));
            for (int what = 0; what < 6; what++) {
                due("count " + what, x.count(what), 0);
            }
            for (int i = 0; i < s[2] * s[3]; i++) {
                due("no wall", x.wall(i % s[2], i / s[2], false), false);
                due("stayed", x.stayed(i % s[2], i / s[2]), 0);
            }
            due("room", x.room(1), 16);
            due("patience", x.patience(1), 6);
            dueThrow("no thing", INDEX, () -> x.interest(0));
            dueThrow("no door", INDEX, () -> x.through(0, true));
            dueThrow("no visitor", INDEX, () -> x.at(0, 0));
        }
        // z is 28652 with seed 0 and 65536 with seed 65536; of interests 10, 20, 30 that takes 2 and 1.
        int[][] seeds = {{0, 2}, {-1, 2}, {LOW, 2}, {65536, 1}, {65537, 1}, {HIGH, 1}, {65535, 2}, {1, 0}};
        for (int[] s : seeds) {
            due("the choice with seed " + s[0], firstChoice(s[0], 0, 0), s[1]);
        }
        due("NONE", VisitorSteps.NONE, -1);
    }

    /** What visitor number alone chooses of interests 10, 20, 30; those before him come never. */
    private static int firstChoice(int seed, int number, int group) {
        VisitorSteps x = new VisitorSteps(4, 4, seed);
        x.door(0, 0);
        x.thing(3, 0, 10, 1);
        x.thing(3, 3, 20, 1);
        x.thing(0, 3, 30, 1);
        for (int i = 0; i < number; i++) {
            x.arrives(400, 0, group);
        }
        x.arrives(0, 0, group);
        x.run(2);
        return x.about(number, 1);
    }

    private static void wall() {
        VisitorSteps x = new VisitorSteps(4, 5, 0);
        due("a wall", x.wall(1, 4, true), true);
        due("again", x.wall(1, 4, true), false);
        due("none", x.wall(1, 4, false), true);
        due("none again", x.wall(1, 4, false), false);
        x.thing(2, 2, 1, 1);
        x.door(0, 1);
        due("on a thing", x.wall(2, 2, true), false);
        due("on a door", x.wall(0, 1, true), false);
        due("none on a thing", x.wall(2, 2, false), false);
        x.arrives(0, 0, 0);
        x.run(2);
        due("where he is", x.at(0, 0), 1);
        due("on a visitor", x.wall(1, 1, true), false);
        x.run(1);
        due("where he was", x.wall(1, 1, true), true);
        due("the way round it", x.far(0, 1, 0), 3);
        due("ways to it", x.far(1, 0, 10), 2);
        due("beyond it", x.far(2, 1, 10), 4);
        for (int[] c : new int[][] {{-1, 0}, {4, 0}, {0, -1}, {0, 5}, {LOW, HIGH}, {HIGH, LOW}}) {
            dueThrow("no cell", INDEX, () -> x.wall(c[0], c[1], true));
            dueThrow("no cell", INDEX, () -> x.wall(c[0], c[1], false));
        }
    }

    private static void thing() {
        VisitorSteps x = new VisitorSteps(4, 4, 0);
        x.wall(1, 1, true);
        due("in a wall", x.thing(1, 1, 5, 5), -1);
        due("still none", x.count(1), 0);
        dueThrow("cell before interest", INDEX, () -> x.thing(4, 0, 0, 0));
        dueThrow("interest before the wall", ARGUMENT, () -> x.thing(1, 1, 0, 1));
        for (int[] bad : new int[][] {{0, 1}, {101, 1}, {1, 0}, {1, 31}, {LOW, 1}, {1, HIGH}, {-1, -1}}) {
            dueThrow("interest or stay", ARGUMENT, () -> x.thing(0, 0, bad[0], bad[1]));
        }
        due("still none", x.count(1), 0);
        int[][] good = {{1, 1}, {100, 30}, {1, 30}, {100, 1}, {50, 15}, {2, 2}};
        for (int i = 0; i < 6; i++) {
            due("its number", x.thing(3, 3, good[i][0], good[i][1]), i);
            due("its interest", x.interest(i), good[i][0]);
            due("how many", x.count(1), i + 1);
        }
        dueThrow("a seventh", STATE, () -> x.thing(0, 0, 1, 1));
        dueThrow("a seventh in a wall", STATE, () -> x.thing(1, 1, 1, 1));
        dueThrow("a seventh with a wrong interest", ARGUMENT, () -> x.thing(0, 0, 101, 1));
        dueThrow("a seventh nowhere", INDEX, () -> x.thing(0, 4, 1, 1));
        due("six", x.count(1), 6);
    }

    private static void door() {
        VisitorSteps x = new VisitorSteps(5, 4, 0);
        x.wall(1, 1, true);
        due("in a wall", x.door(1, 1), -1);
        due("still none", x.count(2), 0);
        dueThrow("no cell", INDEX, () -> x.door(5, 0));
        dueThrow("no cell", INDEX, () -> x.door(-1, 0));
        dueThrow("no cell", INDEX, () -> x.door(0, 4));
        dueThrow("no cell", INDEX, () -> x.door(LOW, HIGH));
        for (int i = 0; i < 4; i++) {
            due("its number", x.door(4, 3), i);
            due("how many", x.count(2), i + 1);
            due("where", x.far(4, 3, 10 + i), 0);
        }
        dueThrow("a fifth", STATE, () -> x.door(0, 0));
        dueThrow("a fifth in a wall", STATE, () -> x.door(1, 1));
        dueThrow("a fifth nowhere", INDEX, () -> x.door(0, -1));
        due("four", x.count(2), 4);
    }

    private static void room() {
        VisitorSteps x = new VisitorSteps(4, 4, 0);
        due("at first", x.room(2), 16);
        due("then", x.room(3), 2);
        for (int bad : new int[] {0, 17, -1, LOW, HIGH}) {
            dueThrow("room " + bad, ARGUMENT, () -> x.room(bad));
        }
        due("unchanged", x.room(16), 3);
        x.door(0, 0);
        for (int i = 0; i < 3; i++) {
            x.arrives(0, 0, 0);
        }
        x.room(2);
        due("two come in", x.run(1), 2);
        due("one waits", x.count(5), 1);
        due("less room", x.room(1), 2);
        due("who is in a cell stays there", x.crowd(0, 0), 2);
        // Both go out in the next second, by their numbers, and the third comes behind them.
        due("the third", x.run(1), 1);
        due("the two are gone", x.about(0, 0) + x.about(1, 0), 4);
    }

    private static void patience() {
        VisitorSteps x = new VisitorSteps(4, 4, 0);
        due("at first", x.patience(1), 6);
        due("then", x.patience(5), 1);
        for (int bad : new int[] {0, 7, -1, LOW, HIGH}) {
            dueThrow("patience " + bad, ARGUMENT, () -> x.patience(bad));
        }
        due("unchanged", x.patience(6), 5);
        for (int most = 1; most <= 6; most++) {
            VisitorSteps y = new VisitorSteps(4, 4, 0);
            y.door(0, 0);
            for (int i = 0; i < 4; i++) {
                y.thing(i, 3, 50, 1);
            }
            y.patience(most);
            y.arrives(0, 0, 0);
            y.run(100);
            due("gone", y.about(0, 0), 2);
            due("seen with patience " + most, y.about(0, 2), Math.min(4, most));
        }
    }

    private static void arrives() {
        VisitorSteps x = new VisitorSteps(4, 4, 0);
        dueThrow("no door", INDEX, () -> x.arrives(0, 0, 0));
        x.door(0, 0);
        dueThrow("no door", INDEX, () -> x.arrives(0, 1, 0));
        dueThrow("no door", INDEX, () -> x.arrives(-1, -1, 9));
        for (int[] bad : new int[][] {{-1, 0}, {401, 0}, {0, -1}, {0, 4}, {LOW, 0}, {HIGH, 0}, {0, LOW}, {0, HIGH}}) {
            dueThrow("second or group", ARGUMENT, () -> x.arrives(bad[0], 0, bad[1]));
        }
        due("nobody", x.count(3), 0);
        due("the first", x.arrives(0, 0, 3), 0);
        due("the last second", x.arrives(400, 0, 0), 1);
        x.run(5);
        dueThrow("a second that has gone by", ARGUMENT, () -> x.arrives(4, 0, 0));
        due("the next second", x.arrives(5, 0, 0), 2);
        due("he has not come", x.about(2, 0), 0);
        due("he comes in it", x.run(1), 1);
        for (int i = 3; i < 16; i++) {
            due("his number", x.arrives(100, 0, i % 4), i);
        }
        dueThrow("a seventeenth", STATE, () -> x.arrives(100, 0, 0));
        dueThrow("a seventeenth, second", ARGUMENT, () -> x.arrives(5, 0, 0));
        dueThrow("a seventeenth, door", INDEX, () -> x.arrives(5, 1, 0));
        due("sixteen", x.count(3), 16);
    }

    private static void run() {
        VisitorSteps x = smallHouse();
        for (int bad : new int[] {0, 101, -1, LOW, HIGH}) {
            dueThrow("run " + bad, ARGUMENT, () -> x.run(bad));
        }
        due("no second", x.count(0), 0);
        due("he comes", x.run(1), 1);
        due("three steps", x.run(3), 1);
        due("at the thing", x.at(0, 0), 3);
        due("not seen", x.seen(0), 0);
        x.run(1);
        due("one second is too short", x.seen(0), 0);
        x.run(1);
        due("seen", x.seen(0), 1);
        due("three steps back", x.run(3), 1);
        due("out", x.run(1), 0);
        due("ten seconds", x.count(0), 10);
        x.run(100);
        x.run(100);
        x.run(100);
        dueThrow("above 400", ARGUMENT, () -> x.run(91));
        x.run(90);
        due("400", x.count(0), 400);
        dueThrow("behind 400", ARGUMENT, () -> x.run(1));
    }

    private static void at() {
        VisitorSteps x = new VisitorSteps(12, 12, 0);
        x.door(11, 9);
        x.arrives(1, 0, 0);
        due("x before", x.at(0, 0), -1);
        due("y before", x.at(0, 1), -1);
        x.run(2);
        due("x", x.at(0, 0), 11);
        due("y", x.at(0, 1), 9);
        x.run(1);
        due("x behind", x.at(0, 0), -1);
        due("y behind", x.at(0, 1), -1);
        for (int[] bad : new int[][] {{0, 2}, {0, -1}, {1, 0}, {-1, 0}, {LOW, 0}, {HIGH, 1}, {0, LOW}, {0, HIGH}}) {
            dueThrow("no such", INDEX, () -> x.at(bad[0], bad[1]));
        }
    }

    private static void about() {
        VisitorSteps x = smallHouse();
        x.door(3, 3);
        int[][] want = {{0, -1, 0}, {1, -1, 0}, {1, 0, 0}, {1, 0, 0}, {1, 0, 0}, {1, 0, 0}, {1, -1, 1}, {1, 10, 1}};
        for (int second = 0; second < want.length; second++) {
            for (int what = 0; what < 3; what++) {
                due("about " + what + " behind " + second, x.about(0, what), want[second][what]);
            }
            x.run(1);
        }
        x.run(2);
        due("gone", x.about(0, 0), 2);
        due("no goal behind", x.about(0, 1), -1);
        due("what he saw", x.about(0, 2), 1);
        for (int[] bad : new int[][] {{0, 3}, {0, -1}, {1, 0}, {-1, 0}, {LOW, 0}, {HIGH, 1}, {0, LOW}, {0, HIGH}}) {
            dueThrow("no such", INDEX, () -> x.about(bad[0], bad[1]));
        }
        VisitorSteps y = new VisitorSteps(4, 4, 0);
        y.door(0, 0);
        y.door(0, 0);
        y.door(3, 0);
        y.arrives(0, 2, 0);
        y.run(1);
        y.wall(2, 0, true);
        y.thing(0, 3, 1, 1);
        y.wall(3, 1, true);
        y.run(1);
        due("only his door", y.about(0, 0), 2);
    }

    private static void crowd() {
        VisitorSteps x = smallHouse();
        x.arrives(0, 0, 0);
        due("nobody", x.crowd(0, 0), 0);
        x.run(1);
        due("two", x.crowd(0, 0), 2);
        x.run(1);
        due("none any more", x.crowd(0, 0), 0);
        due("two on their way", x.crowd(1, 0), 2);
        x.run(50);
        for (int i = 0; i < 16; i++) {
            due("all out", x.crowd(i % 4, i / 4), 0);
        }
        for (int[] c : new int[][] {{-1, 0}, {4, 0}, {0, -1}, {0, 4}, {LOW, 0}, {0, HIGH}}) {
            dueThrow("no cell", INDEX, () -> x.crowd(c[0], c[1]));
        }
    }

    private static void stayed() {
        VisitorSteps x = smallHouse();
        x.arrives(0, 0, 0);
        x.run(50);
        // In: one second in each cell; at the thing one for coming and two for looking; out: one in each again.
        int[] row = {4, 4, 4, 6};
        for (int i = 0; i < 4; i++) {
            due("stayed " + i, x.stayed(i, 0), row[i]);
            due("not there", x.stayed(i, 1), 0);
        }
        for (int[] c : new int[][] {{-1, 0}, {4, 0}, {0, -1}, {0, 4}, {LOW, 0}, {0, HIGH}}) {
            dueThrow("no cell", INDEX, () -> x.stayed(c[0], c[1]));
        }
    }

    private static void through() {
        VisitorSteps x = smallHouse();
        x.door(3, 1);
        x.arrives(3, 1, 0);
        x.run(1);
        due("in", x.through(0, true), 1);
        due("not yet", x.through(1, true), 0);
        due("not out", x.through(0, false), 0);
        x.run(50);
        due("in at 0", x.through(0, true), 1);
        due("in at 1", x.through(1, true), 1);
        due("out at 0", x.through(0, false), 0);
        due("out at 1", x.through(1, false), 2);
        for (int bad : new int[] {-1, 2, LOW, HIGH}) {
            dueThrow("no door", INDEX, () -> x.through(bad, true));
            dueThrow("no door", INDEX, () -> x.through(bad, false));
        }
    }

    private static void seen() {
        VisitorSteps x = smallHouse();
        x.thing(3, 3, 1, 1);
        x.arrives(0, 0, 0);
        x.wall(2, 3, true);
        x.wall(3, 2, true);
        due("none", x.seen(0), 0);
        x.run(60);
        due("both", x.seen(0), 2);
        due("no way to it", x.seen(1), 0);
        for (int bad : new int[] {-1, 2, 6, LOW, HIGH}) {
            dueThrow("no thing", INDEX, () -> x.seen(bad));
        }
    }

    private static void far() {
        VisitorSteps x = new VisitorSteps(5, 4, 0);
        x.thing(0, 0, 1, 1);
        x.door(4, 3);
        due("across", x.far(4, 3, 0), 7);
        due("across to the door", x.far(0, 0, 10), 7);
        due("itself", x.far(0, 0, 0), 0);
        x.wall(1, 0, true);
        x.wall(1, 1, true);
        x.wall(1, 2, true);
        due("round walls", x.far(2, 0, 0), 8);
        due("in a wall", x.far(1, 1, 0), -1);
        x.wall(1, 3, true);
        due("no way", x.far(2, 0, 0), -1);
        due("this side", x.far(0, 3, 0), 3);
        x.wall(1, 1, false);
        due("a way again", x.far(2, 0, 0), 4);
        for (int bad : new int[] {-1, 1, 5, 6, 9, 11, 13, 14, LOW, HIGH, LOW + 9, LOW + 10}) {
            dueThrow("no goal " + bad, INDEX, () -> x.far(0, 0, bad));
        }
        for (int[] c : new int[][] {{-1, 0}, {5, 0}, {0, -1}, {0, 4}, {LOW, 0}, {0, HIGH}}) {
            dueThrow("no cell", INDEX, () -> x.far(c[0], c[1], 0));
        }
    }

    private static void escape() {
        VisitorSteps x = smallHouse();
        due("nobody", x.escape(), 0);
        x.arrives(20, 0, 0);
        x.run(1);
        due("in the door's cell", x.escape(), 1);
        x.run(4);
        String before = picture(x);
        due("three steps and out", x.escape(), 4);
        due("again", x.escape(), 4);
        dueSame("escape", before, x);
        x.door(3, 1);
        due("a nearer door", x.escape(), 2);
        x.run(1);
        due("looking went on", x.about(0, 2), 1);

        VisitorSteps y = new VisitorSteps(4, 4, 0);
        y.door(0, 0);
        y.thing(3, 0, 1, 30);
        for (int i = 0; i < 3; i++) {
            y.arrives(0, 0, 0);
        }
        y.run(10);
        due("three at the thing", y.crowd(3, 0), 3);
        y.room(1);
        due("one behind the other", y.escape(), 6);
        y.wall(2, 0, true);
        y.wall(3, 1, true);
        due("no way", y.escape(), -1);
        y.wall(3, 1, false);
        due("the long way", y.escape(), 8);

        VisitorSteps z = new VisitorSteps(4, 4, 0);
        z.door(0, 0);
        z.arrives(0, 0, 0);
        z.run(1);
        z.thing(2, 2, 1, 1);
        z.run(3);
        due("on his way", z.about(0, 1), 0);
        z.door(3, 0);
        z.door(1, 1);
        due("of three doors the nearest", z.escape(), 2);

        VisitorSteps w = new VisitorSteps(4, 4, 0);
        w.room(1);
        w.door(0, 0);
        w.arrives(0, 0, 0);
        w.arrives(0, 0, 0);
        w.run(1);
        due("nobody comes any more", w.escape(), 1);
        due("but afterwards he does", w.run(1), 1);
    }

    private static void counted() {
        VisitorSteps x = smallHouse();
        for (int bad : new int[] {-2, 101, LOW, HIGH}) {
            dueThrow("n " + bad, ARGUMENT, () -> x.counted(0, bad));
        }
        for (int bad : new int[] {-1, 1, LOW, HIGH}) {
            dueThrow("no thing", INDEX, () -> x.counted(bad, 0));
            dueThrow("no thing before n", INDEX, () -> x.counted(bad, 101));
        }
        due("not counted", x.sum(), 0);
        x.counted(0, 100);
        due("a hundred", x.sum(), 10000);
        dueThrow("n", ARGUMENT, () -> x.counted(0, 101));
        due("unchanged", x.sum(), 10000);
        x.counted(0, 0);
        due("none", x.sum(), 0);
        x.counted(0, 3);
        due("three", x.sum(), 9);
        x.counted(0, -1);
        due("not counted any more", x.sum(), 0);
    }

    private static void sum() {
        VisitorSteps x = smallHouse();
        x.thing(3, 3, 10, 1);
        x.counted(0, 5);
        x.counted(1, 7);
        due("nothing seen", x.sum(), 25 + 49);
        x.run(50);
        String before = picture(x);
        due("both seen", x.sum(), 16 + 36);
        dueSame("sum", before, x);
        // Anew, with the wall, he sees but one; what has gone by stays as it was.
        x.wall(2, 3, true);
        x.wall(3, 2, true);
        before = picture(x);
        due("one seen anew", x.sum(), 16 + 49);
        due("but both have been seen", x.seen(0) + x.seen(1), 2);
        dueSame("sum", before, x);
        x.patience(1);
        x.wall(3, 2, false);
        due("with patience for one", x.sum() == 16 + 49 || x.sum() == 25 + 36, true);

        VisitorSteps y = smallHouse();
        y.counted(0, 0);
        y.run(5);
        due("too early", y.sum(), 0);
        y.run(1);
        due("just seen", y.sum(), 1);
        y.thing(0, 1, 100, 30);
        y.counted(1, 0);
        due("with seed 0 of 10 and 100 the second is chosen first", y.sum(), 0);
    }

    private static void fit() {
        VisitorSteps x = smallHouse();
        for (int bad : new int[] {0, 4, -1, LOW, HIGH}) {
            dueThrow("rounds " + bad, ARGUMENT, () -> x.fit(bad));
        }
        x.run(20);
        due("nothing counted", x.fit(3), 0);
        x.counted(0, 1);
        due("fits already", x.fit(3), 0);
        due("unchanged", x.interest(0), 10);
        due("no things", new VisitorSteps(4, 4, 0).fit(1), 0);

        // z is 28652: modulo 10 + i it is below 10 (thing 0) or not (thing 1).
        // Thing 0 was counted to be seen by one, thing 1 by none; patience 1.
        // With 10, 30: 28652 modulo 40 = 12, thing 1. With 20, 30: 2, thing 0.
        VisitorSteps y = new VisitorSteps(4, 4, 0);
        y.door(0, 0);
        y.thing(3, 0, 10, 1);
        y.thing(0, 3, 30, 1);
        y.patience(1);
        y.arrives(0, 0, 0);
        y.run(20);
        y.counted(0, 1);
        y.counted(1, 0);
        due("before", y.sum(), 2);
        String before = picture(y).replaceAll("t \\d+ \\d+", "");
        due("ten more is kept", y.fit(1), 1);
        due("now 20", y.interest(0), 20);
        due("the other", y.interest(1), 30);
        due("behind", y.sum(), 0);
        due("seen before the fit", y.seen(1), 1);
        due("all else unchanged", picture(y).replaceAll("t \\d+ \\d+", "").equals(before), true);

        // Wanting thing 1 with 97, 3: modulo 100 = 52, thing 0; 100, 3: modulo 103 = 18; 87, 3: modulo 90 = 32;
        // 97, 13: modulo 110 = 52; 97, 1: modulo 98 = 36: nothing helps.
        VisitorSteps z = new VisitorSteps(4, 4, 0);
        z.door(0, 0);
        z.thing(3, 0, 97, 1);
        z.thing(0, 3, 3, 1);
        z.patience(1);
        z.arrives(0, 0, 0);
        z.run(20);
        z.counted(0, 0);
        z.counted(1, 1);
        due("nothing helps", z.fit(1), 0);
        due("as it was", z.interest(0), 97);
        due("as it was, too", z.interest(1), 3);
    }

    private static void interest() {
        VisitorSteps x = smallHouse();
        x.thing(1, 1, 100, 1);
        due("of 0", x.interest(0), 10);
        due("of 1", x.interest(1), 100);
        for (int bad : new int[] {-1, 2, LOW, HIGH}) {
            dueThrow("no thing", INDEX, () -> x.interest(bad));
        }
    }

    private static void count() {
        VisitorSteps x = new VisitorSteps(4, 4, 0);
        x.room(1);
        x.door(0, 0);
        x.thing(3, 3, 1, 30);
        x.thing(3, 3, 1, 30);
        for (int i = 0; i < 3; i++) {
            x.arrives(0, 0, 0);
        }
        x.arrives(1, 0, 0);
        int[] start = {0, 2, 1, 4, 0, 0};
        int[] then = {1, 2, 1, 4, 1, 2};
        int[] next = {2, 2, 1, 4, 2, 2};
        for (int what = 0; what < 6; what++) {
            due("at first " + what, x.count(what), start[what]);
        }
        x.run(1);
        for (int what = 0; what < 6; what++) {
            due("behind second 0 " + what, x.count(what), then[what]);
        }
        x.run(1);
        for (int what = 0; what < 6; what++) {
            due("behind second 1 " + what, x.count(what), next[what]);
        }
        for (int bad : new int[] {-1, 6, LOW, HIGH}) {
            dueThrow("count " + bad, INDEX, () -> x.count(bad));
        }
    }

    private static void choosing() {
        // z modulo 60 is 0, 9, 10, 29, 30, 59 with these seeds.
        int[][] edges = {{811, 0}, {166, 0}, {4, 1}, {500, 1}, {317, 2}, {6, 2}};
        for (int[] e : edges) {
            due("the choice with seed " + e[0], firstChoice(e[0], 0, 0), e[1]);
        }
        int[] alone = {2, 0, 2, 2, 1, 0};
        for (int number = 0; number < alone.length; number++) {
            due("the choice of visitor " + number, firstChoice(0, number, 0), alone[number]);
            due("the choice of a group's " + number, firstChoice(0, number, 2), alone[0]);
        }
        // A goal is kept while there is a way to it, even if a nearer door is made.
        VisitorSteps x = new VisitorSteps(12, 4, 0);
        x.door(0, 0);
        x.door(11, 0);
        x.thing(5, 0, 1, 1);
        x.arrives(0, 0, 0);
        x.run(8);
        due("the nearest door, of 5 and 6 cells", x.about(0, 1), 10);
        x.door(4, 1);
        x.run(1);
        due("kept", x.about(0, 1), 10);
        for (int y = 0; y < 4; y++) {
            x.wall(1, y, true);
        }
        x.run(1);
        due("chosen anew without a way", x.about(0, 1), 12);
        // Of equally near doors the lowest.
        VisitorSteps z = new VisitorSteps(5, 4, 0);
        z.door(4, 0);
        z.door(0, 0);
        z.thing(2, 0, 1, 1);
        z.arrives(0, 1, 0);
        z.run(5);
        due("equal doors", z.about(0, 1), 10);
    }

    private static void steps() {
        // From 1 1 to 3 3 right comes before down, and back up before left.
        VisitorSteps x = new VisitorSteps(4, 4, 0);
        x.door(1, 1);
        x.thing(3, 3, 1, 1);
        x.arrives(0, 0, 0);
        int[][] way = {{1, 1}, {2, 1}, {3, 1}, {3, 2}, {3, 3}, {3, 3}, {3, 2}, {3, 1}, {2, 1}, {1, 1}};
        for (int[] cell : way) {
            x.run(1);
            due("x on the way", x.at(0, 0), cell[0]);
            due("y on the way", x.at(0, 1), cell[1]);
        }
        due("out", x.run(1), 0);
        // Down comes before left.
        VisitorSteps y = new VisitorSteps(4, 4, 0);
        y.door(3, 0);
        y.thing(0, 3, 1, 1);
        y.arrives(0, 0, 0);
        y.run(2);
        due("down first", y.at(0, 1), 1);
        // One who waits for the first such cell does not take another one.
        VisitorSteps z = new VisitorSteps(4, 4, 0);
        z.room(1);
        z.door(1, 0);
        z.thing(1, 0, 1, 30);
        z.arrives(0, 0, 0);
        z.run(2);
        z.door(0, 0);
        z.thing(3, 3, 1, 1);
        z.arrives(2, 1, 0);
        z.run(5);
        due("right is full, down is free", z.at(1, 0) * 10 + z.at(1, 1), 0);
    }

    private static void groups() {
        // 0 waits at the thing for 1, who comes three seconds later; 1 sees it first, then 0.
        VisitorSteps x = smallGroup(1, 1);
        x.run(8);
        due("0 has looked long enough", x.about(0, 2), 0);
        due("1 has looked once", x.about(1, 2), 0);
        x.run(1);
        due("1 has seen it", x.about(1, 2), 1);
        due("0 not yet", x.about(0, 2), 0);
        x.run(1);
        due("0 has seen it, too", x.about(0, 2), 1);
        // Others do not wait.
        for (int[] pair : new int[][] {{0, 0}, {1, 2}, {0, 1}}) {
            VisitorSteps y = smallGroup(pair[0], pair[1]);
            y.run(6);
            due("nobody to wait for", y.about(0, 2), 1);
        }
        // Those who have not come are not waited for.
        VisitorSteps z = new VisitorSteps(4, 4, 0);
        z.door(0, 0);
        z.thing(3, 0, 10, 2);
        z.arrives(0, 0, 1);
        z.arrives(6, 0, 1);
        z.run(6);
        due("he has seen it before", z.about(0, 2), 1);
    }

    private static VisitorSteps smallGroup(int first, int second) {
        VisitorSteps x = new VisitorSteps(4, 4, 0);
        x.door(0, 0);
        x.thing(3, 0, 10, 2);
        x.arrives(0, 0, first);
        x.arrives(3, 0, second);
        return x;
    }
}
