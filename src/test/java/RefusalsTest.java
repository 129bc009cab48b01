/**
 * Every call that the document refuses, or answers without doing anything, in an empty, a busy, a full and an old
 * house: what it throws or answers, and that nothing has changed, neither what can be asked nor what comes later.
 */
public final class RefusalsTest {
    private static final int LOW = Due.LOW;
    private static final int HIGH = Due.HIGH;

    private static String name = "";
    private static Due.House house = RefusalsTest::empty;

    public static void main(String[] args) {
        inAll("the empty house", RefusalsTest::empty);
        inAll("the busy house", RefusalsTest::busy);
        inAll("the full house", RefusalsTest::full);
        inAll("the old house", RefusalsTest::old);
        busyHouseAnswersNo();
        fullHouse();
        emptyHouse();
        oldHouse();
        Due.end();
    }

    private static VisitorSteps empty() {
        return new VisitorSteps(5, 4, 9);
    }

    /** One looks, some are on their way, some wait outside, one is gone, one comes later; two walls. */
    private static VisitorSteps busy() {
        VisitorSteps x = new VisitorSteps(5, 4, 9);
        x.door(0, 0);
        x.door(4, 3);
        x.thing(4, 0, 40, 3);
        x.thing(0, 3, 60, 5);
        x.wall(2, 0, true);
        x.wall(2, 1, true);
        x.room(2);
        x.patience(1);
        x.arrives(0, 0, 0);
        x.arrives(0, 0, 1);
        x.arrives(0, 0, 1);
        x.arrives(1, 1, 0);
        for (int i = 0; i < 6; i++) {
            x.arrives(19, 0, 0);
        }
        x.arrives(30, 0, 2);
        x.counted(0, 2);
        x.counted(1, 5);
        x.run(20);
        return x;
    }

    /** Six things, four doors, sixteen visitors, and a wall. */
    private static VisitorSteps full() {
        VisitorSteps x = new VisitorSteps(5, 4, 9);
        for (int i = 0; i < 6; i++) {
            x.thing(i % 5, 3 - i / 5, 10 + 15 * i, 1 + i);
            x.counted(i, 2 * i);
        }
        for (int i = 0; i < 4; i++) {
            x.door(i, 0);
        }
        x.wall(2, 1, true);
        for (int i = 0; i < 16; i++) {
            x.arrives(2 * i, i % 4, i % 3);
        }
        x.room(3);
        x.run(12);
        return x;
    }

    /** 400 seconds have gone by; one has been shut in, and one was told for the second that never goes by. */
    private static VisitorSteps old() {
        VisitorSteps x = new VisitorSteps(5, 4, 9);
        x.door(0, 0);
        x.thing(4, 3, 50, 2);
        x.arrives(0, 0, 0);
        x.arrives(400, 0, 0);
        x.run(9);
        x.wall(3, 3, true);
        x.wall(4, 2, true);
        x.run(91);
        x.run(100);
        x.run(100);
        x.run(100);
        x.counted(0, 3);
        return x;
    }

    private static void no(String what, Class<?> kind, Due.Call call) {
        Due.refusedAndNothingChanges(what + " in " + name, kind, house, call);
    }

    private static void idle(String what, long want, Due.Question question) {
        Due.answeredAndNothingChanges(what + " in " + name, want, house, question);
    }

    private static void in(String itsName, Due.House itsHouse) {
        name = itsName;
        house = itsHouse;
    }

    private static void inAll(String itsName, Due.House itsHouse) {
        in(itsName, itsHouse);
        cells();
        goals();
        things();
        doors();
        visitors();
        numbers();
    }

    private static void cells() {
        Due.sentence("IndexOutOfBoundsException: there is no such cell");
        // The first on each side, the extremes, and some whose number over the rows would be that of a cell.
        int[][] none = {{-1, 0}, {5, 0}, {0, -1}, {0, 4}, {-1, 1}, {5, 3}, {-5, 1}, {12, 0}, {-12, 1}, {24, -1},
            {LOW, 0}, {HIGH, 0}, {0, LOW}, {0, HIGH}, {LOW, LOW}, {HIGH, HIGH}};
        for (int[] c : none) {
            String at = "(" + c[0] + ", " + c[1] + ")";
            no("wall" + at + " on", Due.INDEX, x -> x.wall(c[0], c[1], true));
            no("wall" + at + " off", Due.INDEX, x -> x.wall(c[0], c[1], false));
            no("thing" + at, Due.INDEX, x -> x.thing(c[0], c[1], 5, 5));
            no("thing" + at + " with a wrong interest", Due.INDEX, x -> x.thing(c[0], c[1], 0, 31));
            no("door" + at, Due.INDEX, x -> x.door(c[0], c[1]));
            no("crowd" + at, Due.INDEX, x -> x.crowd(c[0], c[1]));
            no("stayed" + at, Due.INDEX, x -> x.stayed(c[0], c[1]));
            no("far" + at + " to a thing", Due.INDEX, x -> x.far(c[0], c[1], 0));
            no("far" + at + " to a door", Due.INDEX, x -> x.far(c[0], c[1], 10));
        }
    }

    private static void goals() {
        Due.sentence("far: a thing (0 .. 5) or a door (10 and its number)");
        int things = house.make().count(1);
        int doors = house.make().count(2);
        int[] none = {-1, things == 6 ? 6 : things, 6, 7, 8, 9, 10 + doors, 14, -10, LOW, HIGH, LOW + 9, LOW + 10, LOW + 16};
        for (int goal : none) {
            no("far to " + goal, Due.INDEX, x -> x.far(0, 0, goal));
        }
    }

    private static void things() {
        Due.sentence("IndexOutOfBoundsException: there is no such thing");
        for (int t : new int[] {-1, house.make().count(1), 6, 10, LOW, HIGH}) {
            no("seen(" + t + ")", Due.INDEX, x -> x.seen(t));
            no("interest(" + t + ")", Due.INDEX, x -> x.interest(t));
            no("counted(" + t + ", 0)", Due.INDEX, x -> x.counted(t, 0));
            no("counted(" + t + ", NONE)", Due.INDEX, x -> x.counted(t, Due.NONE));
            no("counted(" + t + ", 101)", Due.INDEX, x -> x.counted(t, 101));
        }
    }

    private static void doors() {
        Due.sentence("IndexOutOfBoundsException: there is no such door");
        for (int d : new int[] {-1, house.make().count(2), 4, 10, LOW, HIGH}) {
            no("through(" + d + ", true)", Due.INDEX, x -> x.through(d, true));
            no("through(" + d + ", false)", Due.INDEX, x -> x.through(d, false));
            no("arrives at " + d, Due.INDEX, x -> x.arrives(400, d, 0));
            no("arrives at " + d + " with wrong numbers", Due.INDEX, x -> x.arrives(401, d, 4));
        }
    }

    private static void visitors() {
        Due.sentence("IndexOutOfBoundsException: there is no such visitor");
        int told = house.make().count(3);
        for (int v : new int[] {-1, told, 16, LOW, HIGH}) {
            for (int what = 0; what < 3; what++) {
                int w = what;
                no("at(" + v + ", " + w + ")", Due.INDEX, x -> x.at(v, w));
                no("about(" + v + ", " + w + ")", Due.INDEX, x -> x.about(v, w));
            }
        }
        Due.sentence("IndexOutOfBoundsException: there is no such what");
        for (int v = 0; v < told; v += 3) {
            int one = v;
            for (int bad : new int[] {-1, 2, LOW, HIGH}) {
                no("at(" + v + ", " + bad + ")", Due.INDEX, x -> x.at(one, bad));
            }
            for (int bad : new int[] {-1, 3, LOW, HIGH}) {
                no("about(" + v + ", " + bad + ")", Due.INDEX, x -> x.about(one, bad));
            }
        }
        for (int bad : new int[] {-1, 6, LOW, HIGH}) {
            no("count(" + bad + ")", Due.INDEX, x -> x.count(bad));
        }
    }

    private static void numbers() {
        Due.sentence("IllegalArgumentException: interest or stay");
        for (int bad : new int[] {0, 101, -1, LOW, HIGH}) {
            no("interest " + bad, Due.ARGUMENT, x -> x.thing(1, 1, bad, 1));
        }
        for (int bad : new int[] {0, 31, -1, LOW, HIGH}) {
            no("stay " + bad, Due.ARGUMENT, x -> x.thing(1, 1, 1, bad));
        }
        Due.sentence("room: IllegalArgumentException: it is not 1 .. 16");
        for (int bad : new int[] {0, 17, -1, LOW, HIGH}) {
            no("room " + bad, Due.ARGUMENT, x -> x.room(bad));
        }
        Due.sentence("patience: IllegalArgumentException: it is not 1 .. 6");
        for (int bad : new int[] {0, 7, -1, LOW, HIGH}) {
            no("patience " + bad, Due.ARGUMENT, x -> x.patience(bad));
        }
        Due.sentence("run: IllegalArgumentException: seconds is not 1 .. 100");
        for (int bad : new int[] {0, 101, -1, LOW, HIGH, HIGH - 19}) {
            no("run " + bad, Due.ARGUMENT, x -> x.run(bad));
        }
        Due.sentence("fit: IllegalArgumentException: rounds is not 1 .. 3");
        for (int bad : new int[] {0, 4, -1, LOW, HIGH}) {
            no("fit " + bad, Due.ARGUMENT, x -> x.fit(bad));
        }
        Due.sentence("arrives: IllegalArgumentException: second is below the one that goes by next, or above 400, or the group");
        for (int door = 0; door < house.make().count(2); door++) {
            int d = door;
            int next = house.make().count(0);
            for (int bad : new int[] {next - 1, 401, LOW, HIGH}) {
                no("arrives in " + bad, Due.ARGUMENT, x -> x.arrives(bad, d, 0));
            }
            for (int bad : new int[] {-1, 4, LOW, HIGH}) {
                no("arrives in group " + bad, Due.ARGUMENT, x -> x.arrives(400, d, bad));
            }
        }
        Due.sentence("counted: IllegalArgumentException: n is below NONE or above 100");
        for (int thing = 0; thing < house.make().count(1); thing++) {
            int t = thing;
            for (int bad : new int[] {-2, 101, LOW, HIGH}) {
                no("counted " + bad, Due.ARGUMENT, x -> x.counted(t, bad));
            }
        }
    }

    private static void busyHouseAnswersNo() {
        in("the busy house", RefusalsTest::busy);
        VisitorSteps now = busy();
        Due.sentence("the busy house holds what these tests need");
        Due.due("one is gone", now.about(0, 0), 2);
        Due.due("one looks", now.about(3, 1), 1);
        Due.due("some wait outside", now.count(5) > 0, true);
        Due.due("one comes later", now.about(10, 0), 0);
        Due.due("some are inside", now.count(4) > 2, true);
        Due.sentence("wall: no, if it is so already");
        idle("a wall on a wall", 0, x -> x.wall(2, 0, true) ? 1 : 0);
        idle("none where none is", 0, x -> x.wall(3, 1, false) ? 1 : 0);
        idle("none at a thing", 0, x -> x.wall(4, 0, false) ? 1 : 0);
        Due.sentence("wall: no, for a wall, if a thing, a door or a visitor is there");
        idle("a wall on a thing", 0, x -> x.wall(4, 0, true) ? 1 : 0);
        idle("a wall on a door", 0, x -> x.wall(4, 3, true) ? 1 : 0);
        for (int v = 0; v < now.count(3); v++) {
            int column = now.at(v, 0);
            int row = now.at(v, 1);
            if (now.about(v, 0) == 1) {
                idle("a wall on visitor " + v, 0, x -> x.wall(column, row, true) ? 1 : 0);
            }
        }
        Due.sentence("thing, door: NONE, if there is a wall");
        idle("a thing in a wall", Due.NONE, x -> x.thing(2, 1, 5, 5));
        idle("a door in a wall", Due.NONE, x -> x.door(2, 1));
        Due.sentence("thing: IllegalArgumentException: interest or stay");
        no("a wrong interest in a wall", Due.ARGUMENT, x -> x.thing(2, 1, 0, 5));
        no("a wrong stay in a wall", Due.ARGUMENT, x -> x.thing(2, 1, 5, 31));
        Due.sentence("escape: nothing changes");
        idle("escape", now.escape(), x -> x.escape());
        idle("sum", now.sum(), x -> x.sum());
        questions(now);
    }

    /** No question changes what it asks. */
    private static void questions(VisitorSteps now) {
        idle("at", now.at(4, 0), x -> x.at(4, 0));
        idle("about", now.about(4, 1), x -> x.about(4, 1));
        idle("crowd", now.crowd(0, 0), x -> x.crowd(0, 0));
        idle("stayed", now.stayed(0, 0), x -> x.stayed(0, 0));
        idle("through", now.through(0, true), x -> x.through(0, true));
        idle("seen", now.seen(0), x -> x.seen(0));
        idle("far", now.far(1, 1, 0), x -> x.far(1, 1, 0));
        idle("interest", now.interest(0), x -> x.interest(0));
        idle("count", now.count(5), x -> x.count(5));
        idle("the same room", 2, x -> x.room(2));
        idle("the same patience", 1, x -> x.patience(1));
    }

    private static void fullHouse() {
        in("the full house", RefusalsTest::full);
        Due.sentence("thing: IllegalStateException: there are six");
        no("a seventh thing", Due.STATE, x -> x.thing(1, 1, 5, 5));
        no("a seventh thing in a wall", Due.STATE, x -> x.thing(2, 1, 5, 5));
        no("a seventh thing with a wrong stay", Due.ARGUMENT, x -> x.thing(1, 1, 5, 31));
        Due.sentence("door: IllegalStateException: there are four");
        no("a fifth door", Due.STATE, x -> x.door(1, 1));
        no("a fifth door in a wall", Due.STATE, x -> x.door(2, 1));
        Due.sentence("arrives: IllegalStateException: there are 16");
        no("a seventeenth visitor", Due.STATE, x -> x.arrives(400, 0, 0));
        no("a seventeenth visitor of a group", Due.STATE, x -> x.arrives(12, 3, 3));
        no("a seventeenth visitor too late", Due.ARGUMENT, x -> x.arrives(401, 0, 0));
        no("a seventeenth visitor too early", Due.ARGUMENT, x -> x.arrives(11, 0, 0));
        no("a seventeenth visitor of no group", Due.ARGUMENT, x -> x.arrives(400, 0, 4));
    }

    private static void emptyHouse() {
        in("the empty house", RefusalsTest::empty);
        Due.sentence("a house without walls, things, doors, visitors");
        idle("none where none is", 0, x -> x.wall(0, 0, false) ? 1 : 0);
        idle("escape of nobody", 0, x -> x.escape());
        idle("sum of nothing", 0, x -> x.sum());
        idle("fit of nothing", 0, x -> x.fit(3));
    }

    private static void oldHouse() {
        in("the old house", RefusalsTest::old);
        Due.sentence("run: or there would be more than 400");
        for (int seconds : new int[] {1, 2, 99, 100}) {
            no("run " + seconds, Due.ARGUMENT, x -> x.run(seconds));
        }
        Due.sentence("escape: NONE, if that is above 200");
        idle("escape of one who is shut in", Due.NONE, x -> x.escape());
        Due.sentence("sum: run anew");
        idle("sum with the walls of now", 9, x -> x.sum());
    }
}
