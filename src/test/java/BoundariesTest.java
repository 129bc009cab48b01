/**
 * Promise by promise, each sentence that names a boundary: the last input on its good side, and what it does, and the
 * first on the other. That a refused call changes nothing is in RefusalsTest; what a second does is in SecondsTest.
 */
public final class BoundariesTest {
    private static final int NONE = Due.NONE;
    private static final int LOW = Due.LOW;
    private static final int HIGH = Due.HIGH;

    public static void main(String[] args) {
        sides();
        seeds();
        newObject();
        wallCells();
        wallSoAlready();
        wallWhereSomethingIs();
        thingNumbers();
        thingsTogether();
        thingInterestAndStay();
        doorNumbers();
        roomLimits();
        roomStays();
        patienceLimits();
        patienceIsMoved();
        arrivesSecond();
        arrivesGroup();
        arrivesSixteen();
        runLimits();
        runOfFourHundred();
        whereHeIs();
        howHeIs();
        goals();
        crowds();
        secondsOfCells();
        throughDoors();
        seenByAll();
        distances();
        noWay();
        escapeOfNobody();
        escapeOneByOne();
        escapeByTheLongestWay();
        escapeWithoutAWay();
        countedLimits();
        sums();
        sumAnew();
        sumAnewWithDoorsAndGroups();
        fitRounds();
        fitLimits();
        fitKeepsLess();
        interests();
        counts();
        waitingOutside();
        Due.end();
    }

    /** A door at 0 0, where also so many things are, all of one second. */
    private static VisitorSteps allInOneCell(int things) {
        VisitorSteps x = new VisitorSteps(5, 4, 9);
        x.door(0, 0);
        for (int i = 0; i < things; i++) {
            x.thing(0, 0, 10, 1);
        }
        return x;
    }

    private static void sides() {
        Due.sentence("width and height 4 .. 12 (what is given below or above that counts as the least or the greatest)");
        int[][] sides = {{LOW, 4}, {-1, 4}, {0, 4}, {3, 4}, {4, 4}, {5, 5}, {8, 8}, {11, 11}, {12, 12}, {13, 12}, {HIGH, 12}};
        for (int[] w : sides) {
            for (int[] h : sides) {
                VisitorSteps x = new VisitorSteps(w[0], h[0], 0);
                String house = w[0] + " x " + h[0];
                Due.due("the last corner of " + house, x.crowd(w[1] - 1, h[1] - 1), 0);
                Due.refused("behind the width of " + house, Due.INDEX, x, y -> y.crowd(w[1], 0));
                Due.refused("behind the height of " + house, Due.INDEX, x, y -> y.crowd(0, h[1]));
                x.door(0, 0);
                Due.due("across " + house, x.far(w[1] - 1, h[1] - 1, 10), w[1] + h[1] - 2);
            }
        }
    }

    private static void seeds() {
        Due.sentence("a seed 0 .. 65536 (likewise)");
        // z modulo 60 is 32 with 0, 5 with 1, 59 with 65535, 16 with 65536; of 10, 20, 30 that takes these.
        int[][] seeds = {{LOW, 2}, {-65537, 2}, {-1, 2}, {0, 2}, {1, 0}, {65535, 2}, {65536, 1}, {65537, 1}, {65538, 1}, {HIGH, 1}};
        for (int[] s : seeds) {
            VisitorSteps x = new VisitorSteps(4, 4, s[0]);
            x.door(0, 0);
            x.thing(3, 0, 10, 1);
            x.thing(3, 3, 20, 1);
            x.thing(0, 3, 30, 1);
            x.arrives(0, 0, 0);
            x.run(2);
            Due.due("the choice with seed " + s[0], x.about(0, 1), s[1]);
        }
    }

    private static void newObject() {
        Due.sentence("a house without walls, things, doors, visitors, at second 0");
        VisitorSteps x = new VisitorSteps(5, 4, 9);
        for (int what = 0; what < 6; what++) {
            Due.due("count " + what, x.count(what), 0);
        }
        for (int i = 0; i < 20; i++) {
            Due.due("no wall at " + i, x.wall(i % 5, i / 5, false), false);
            Due.due("nobody at " + i, x.crowd(i % 5, i / 5), 0);
            Due.due("nobody was at " + i, x.stayed(i % 5, i / 5), 0);
        }
        Due.refused("no thing", Due.INDEX, x, y -> y.seen(0));
        Due.refused("no door", Due.INDEX, x, y -> y.through(0, true));
        Due.refused("no visitor", Due.INDEX, x, y -> y.about(0, 0));
        Due.due("room", x.room(16), 16);
        Due.due("patience", x.patience(6), 6);
        Due.due("nobody comes", x.run(100), 0);
    }

    private static void wallCells() {
        Due.sentence("wall: a cell becomes a wall, or none");
        VisitorSteps x = new VisitorSteps(5, 4, 9);
        int[][] corners = {{0, 0}, {4, 0}, {0, 3}, {4, 3}};
        for (int[] c : corners) {
            Due.due("a corner", x.wall(c[0], c[1], true), true);
            Due.due("a thing in it", x.thing(c[0], c[1], 1, 1), NONE);
            Due.due("no wall any more", x.wall(c[0], c[1], false), true);
        }
        Due.due("a thing in the last corner", x.thing(4, 3, 1, 1), 0);
        VisitorSteps all = new VisitorSteps(12, 12, 9);
        for (int i = 0; i < 144; i++) {
            Due.due("all cells can be walls", all.wall(i % 12, i / 12, true), true);
        }
        Due.due("no cell for a door", all.door(11, 11), NONE);
        Due.due("one is opened", all.wall(11, 11, false), true);
        Due.due("a door in it", all.door(11, 11), 0);
        Due.due("it is at itself", all.far(11, 11, 10), 0);
        Due.due("beside it is a wall", all.far(10, 11, 10), NONE);
    }

    private static void wallSoAlready() {
        Due.sentence("wall: no, if it is so already");
        VisitorSteps x = new VisitorSteps(5, 4, 9);
        Due.due("none is there", x.wall(2, 2, false), false);
        Due.due("a wall", x.wall(2, 2, true), true);
        Due.due("a wall again", x.wall(2, 2, true), false);
        Due.due("none", x.wall(2, 2, false), true);
        Due.due("none again", x.wall(2, 2, false), false);
    }

    private static void wallWhereSomethingIs() {
        Due.sentence("wall: no, for a wall, if a thing, a door or a visitor is there");
        VisitorSteps x = new VisitorSteps(5, 4, 9);
        x.thing(4, 2, 1, 1);
        x.door(2, 2);
        Due.due("on a thing", x.wall(4, 2, true), false);
        Due.due("on a door", x.wall(2, 2, true), false);
        x.arrives(0, 0, 0);
        Due.due("one who has not come is nowhere", x.wall(0, 0, true), true);
        x.run(2);
        Due.due("he is on his way", x.at(0, 0), 3);
        Due.due("on a visitor", x.wall(3, 2, true), false);
        x.run(1);
        Due.due("where he has left", x.wall(3, 2, true), true);
        x.run(20);
        Due.due("he is gone", x.about(0, 0), 2);
        Due.due("one who is gone is nowhere", x.wall(1, 0, true), true);
        Due.due("at the door he left through", x.wall(2, 2, true), false);
    }

    private static void thingNumbers() {
        Due.sentence("things 0 .. 5; IllegalStateException: there are six");
        VisitorSteps x = new VisitorSteps(5, 4, 9);
        x.wall(1, 1, true);
        for (int i = 0; i < 6; i++) {
            Due.due("in a wall there is none", x.thing(1, 1, 1, 1), NONE);
            Due.due("its number", x.thing(4, 3, 1, 1), i);
            Due.due("how many", x.count(1), i + 1);
        }
        Due.refused("a seventh", Due.STATE, x, y -> y.thing(0, 0, 1, 1));
        Due.due("still six", x.count(1), 6);
    }

    private static void thingsTogether() {
        Due.sentence("things and doors lie in cells without a wall");
        VisitorSteps x = new VisitorSteps(5, 4, 9);
        Due.due("a door", x.door(2, 2), 0);
        Due.due("a thing at a door", x.thing(2, 2, 1, 1), 0);
        Due.due("a thing at a thing", x.thing(2, 2, 1, 1), 1);
        Due.due("a door at both", x.door(2, 2), 1);
        x.wall(0, 0, true);
        x.wall(0, 0, false);
        Due.due("where a wall was", x.thing(0, 0, 1, 1), 2);
        x.arrives(0, 0, 0);
        x.run(1);
        Due.due("a thing where a visitor is", x.thing(2, 2, 1, 1), 3);
        Due.due("a door where a visitor is", x.door(2, 2), 2);
    }

    private static void thingInterestAndStay() {
        Due.sentence("an interest 1 .. 100 and takes stay 1 .. 30 seconds");
        for (int interest : new int[] {1, 2, 99, 100}) {
            VisitorSteps x = new VisitorSteps(5, 4, 9);
            Due.due("a thing", x.thing(0, 0, interest, 1), 0);
            Due.due("its interest", x.interest(0), interest);
        }
        for (int bad : new int[] {0, 101}) {
            Due.refused("interest " + bad, Due.ARGUMENT, new VisitorSteps(5, 4, 9), y -> y.thing(0, 0, bad, 1));
            Due.refused("interest and stay " + bad, Due.ARGUMENT, new VisitorSteps(5, 4, 9), y -> y.thing(0, 0, bad, bad));
        }
        for (int stay : new int[] {1, 2, 29, 30}) {
            VisitorSteps x = new VisitorSteps(5, 4, 9);
            x.door(0, 0);
            Due.due("a thing", x.thing(0, 0, 5, stay), 0);
            x.arrives(0, 0, 0);
            x.run(stay);
            Due.due("a second less than " + stay, x.seen(0), 0);
            x.run(1);
            Due.due("after " + stay, x.seen(0), 1);
        }
        for (int bad : new int[] {0, 31}) {
            Due.refused("stay " + bad, Due.ARGUMENT, new VisitorSteps(5, 4, 9), y -> y.thing(0, 0, 1, bad));
        }
    }

    private static void doorNumbers() {
        Due.sentence("doors 0 .. 3; IllegalStateException: there are four");
        VisitorSteps x = new VisitorSteps(5, 4, 9);
        x.wall(1, 1, true);
        for (int i = 0; i < 4; i++) {
            Due.due("in a wall there is none", x.door(1, 1), NONE);
            Due.due("its number", x.door(i, 3), i);
            Due.due("how many", x.count(2), i + 1);
            Due.due("where it is", x.far(i, 3, 10 + i), 0);
            Due.due("one can come through it", x.arrives(0, i, 0), i);
        }
        Due.refused("a fifth", Due.STATE, x, y -> y.door(0, 0));
        Due.due("still four", x.count(2), 4);
        x.run(1);
        for (int i = 0; i < 4; i++) {
            Due.due("one came", x.crowd(i, 3), 1);
        }
    }

    private static void roomLimits() {
        Due.sentence("a cell has room for 1 .. 16 visitors (16 at first)");
        for (int room = 1; room <= 16; room++) {
            VisitorSteps x = allInOneCell(1);
            Due.due("at first", x.room(room), 16);
            Due.due("what it was", x.room(room), room);
            for (int i = 0; i < 16; i++) {
                x.arrives(0, 0, 0);
            }
            Due.due("inside with room " + room, x.run(1), room);
            Due.due("in the cell", x.crowd(0, 0), room);
            Due.due("the others wait", x.count(5), 16 - room);
        }
        VisitorSteps first = allInOneCell(0);
        for (int i = 0; i < 16; i++) {
            first.arrives(0, 0, 0);
        }
        Due.due("without being told there is room for 16", first.run(1), 16);
        Due.refused("room 0", Due.ARGUMENT, first, y -> y.room(0));
        Due.refused("room 17", Due.ARGUMENT, first, y -> y.room(17));
        Due.due("as it was", first.room(1), 16);
    }

    private static void roomStays() {
        Due.sentence("room: who is in a cell stays there");
        VisitorSteps x = new VisitorSteps(5, 4, 9);
        x.door(0, 0);
        x.thing(0, 0, 1, 30);
        for (int i = 0; i < 3; i++) {
            x.arrives(0, 0, 0);
        }
        x.arrives(3, 0, 0);
        x.run(3);
        x.room(1);
        Due.due("three in a cell for one", x.crowd(0, 0), 3);
        Due.due("they stay", x.run(1), 3);
        x.room(2);
        Due.due("a cell for two is full, too", x.run(1), 3);
        x.room(3);
        Due.due("and one for three", x.run(1), 3);
        Due.due("he waits", x.count(5), 1);
        x.room(4);
        Due.due("one for four is not", x.run(1), 4);
        Due.due("nobody waits", x.count(5), 0);
    }

    private static void patienceLimits() {
        Due.sentence("with less than patience things seen (1 .. 6; 6 at first)");
        for (int most = 1; most <= 6; most++) {
            VisitorSteps x = allInOneCell(6);
            Due.due("at first", x.patience(most), 6);
            Due.due("what it was", x.patience(most), most);
            x.arrives(0, 0, 0);
            Due.due("inside with patience " + most, x.run(most + 1), 1);
            Due.due("seen with patience " + most, x.about(0, 2), most);
            Due.due("then he goes", x.run(1), 0);
            Due.due("seen when he is gone", x.about(0, 2), most);
        }
        VisitorSteps first = allInOneCell(6);
        first.arrives(0, 0, 0);
        first.run(100);
        Due.due("without being told he sees six", first.about(0, 2), 6);
        Due.refused("patience 0", Due.ARGUMENT, first, y -> y.patience(0));
        Due.refused("patience 7", Due.ARGUMENT, first, y -> y.patience(7));
        Due.due("as it was", first.patience(1), 6);
    }

    private static void patienceIsMoved() {
        Due.sentence("choosing: with less than patience things seen");
        int[][] moved = {{1, 3}, {2, 3}, {3, 3}, {4, 4}, {5, 5}, {6, 6}};
        for (int[] m : moved) {
            VisitorSteps x = allInOneCell(6);
            x.arrives(0, 0, 0);
            x.run(4);
            Due.due("three seen", x.about(0, 2), 3);
            x.patience(m[0]);
            x.run(20);
            Due.due("seen with patience " + m[0] + " from then on", x.about(0, 2), m[1]);
        }
        VisitorSteps y = new VisitorSteps(5, 4, 9);
        y.door(0, 0);
        y.thing(4, 3, 1, 1);
        y.thing(4, 3, 1, 1);
        y.patience(1);
        y.arrives(0, 0, 0);
        y.run(10);
        Due.due("he goes to the door", y.about(0, 1), 10);
        y.patience(6);
        Due.due("and has chosen", y.run(7), 0);
    }

    private static void arrivesSecond() {
        Due.sentence("arrives: second is below the one that goes by next, or above 400");
        VisitorSteps x = allInOneCell(0);
        Due.refused("before the first second", Due.ARGUMENT, x, y -> y.arrives(-1, 0, 0));
        Due.due("the first second", x.arrives(0, 0, 0), 0);
        Due.due("the last second", x.arrives(400, 0, 0), 1);
        Due.refused("behind the last", Due.ARGUMENT, x, y -> y.arrives(401, 0, 0));
        x.run(1);
        Due.refused("second 0 has gone by", Due.ARGUMENT, x, y -> y.arrives(0, 0, 0));
        Due.due("second 1 goes by next", x.arrives(1, 0, 0), 2);
        x.run(1);
        Due.due("he came in it", x.about(2, 0), 1);
        x.run(97);
        x.run(100);
        x.run(100);
        x.run(100);
        Due.refused("398 has gone by", Due.ARGUMENT, x, y -> y.arrives(398, 0, 0));
        Due.due("399 goes by next", x.arrives(399, 0, 0), 3);
        Due.due("and he comes", x.run(1), 1);
        Due.refused("399 has gone by", Due.ARGUMENT, x, y -> y.arrives(399, 0, 0));
        Due.due("400 would be next", x.arrives(400, 0, 0), 4);
        Due.due("in 400 nobody comes", x.about(1, 0) + x.about(4, 0), 0);
    }

    private static void arrivesGroup() {
        Due.sentence("arrives: a group 0 .. 3 (0: alone)");
        VisitorSteps x = allInOneCell(0);
        Due.refused("group -1", Due.ARGUMENT, x, y -> y.arrives(0, 0, -1));
        Due.refused("group 4", Due.ARGUMENT, x, y -> y.arrives(0, 0, 4));
        for (int group = 0; group <= 3; group++) {
            Due.due("group " + group, x.arrives(0, 0, group), group);
        }
        Due.due("four have been told", x.count(3), 4);
    }

    private static void arrivesSixteen() {
        Due.sentence("visitors 0, 1, .. , at most 16, in the order in which they are told");
        VisitorSteps x = allInOneCell(0);
        for (int i = 0; i < 16; i++) {
            Due.due("his number", x.arrives(16 - i, 0, 0), i);
            Due.due("how many", x.count(3), i + 1);
        }
        Due.refused("a seventeenth", Due.STATE, x, y -> y.arrives(0, 0, 0));
        x.run(2);
        Due.due("the last told comes first", x.about(15, 0), 1);
        Due.due("the first told is not there", x.about(0, 0), 0);
        x.run(14);
        Due.due("he who was told for 15 came", x.about(1, 0), 1);
        Due.due("he who was told for 16 did not", x.about(0, 0), 0);
        x.run(2);
        Due.due("all went out", x.through(0, false), 16);
        Due.refused("nor when all are gone", Due.STATE, x, y -> y.arrives(100, 0, 0));
    }

    private static void runLimits() {
        Due.sentence("run: IllegalArgumentException: seconds is not 1 .. 100");
        VisitorSteps x = allInOneCell(0);
        Due.refused("run 0", Due.ARGUMENT, x, y -> y.run(0));
        Due.due("one second", x.run(1), 0);
        Due.due("has gone by", x.count(0), 1);
        Due.refused("run 101", Due.ARGUMENT, x, y -> y.run(101));
        Due.due("a hundred", x.run(100), 0);
        Due.due("have gone by", x.count(0), 101);
    }

    private static void runOfFourHundred() {
        Due.sentence("run: or there would be more than 400");
        for (int rest = 1; rest <= 100; rest += 33) {
            int last = rest;
            VisitorSteps x = allInOneCell(0);
            x.run(100);
            x.run(100);
            x.run(100);
            if (rest < 100) {
                x.run(100 - rest);
                Due.refused("one more than 400", Due.ARGUMENT, x, y -> y.run(last + 1));
            }
            Due.due("up to then", x.count(0), 400 - rest);
            Due.due("the last of 400", x.run(rest), 0);
            Due.due("all have gone by", x.count(0), 400);
            Due.refused("one more", Due.ARGUMENT, x, y -> y.run(1));
            Due.refused("a hundred more", Due.ARGUMENT, x, y -> y.run(100));
        }
    }

    private static void whereHeIs() {
        Due.sentence("at: 0 his x, 1 his y; NONE, if he is not inside");
        VisitorSteps x = new VisitorSteps(12, 12, 9);
        x.room(1);
        x.door(11, 7);
        x.arrives(1, 0, 0);
        x.arrives(1, 0, 0);
        int[][] due = {{NONE, NONE, NONE, NONE}, {NONE, NONE, NONE, NONE}, {11, 7, NONE, NONE}, {NONE, NONE, 11, 7},
            {NONE, NONE, NONE, NONE}};
        for (int[] d : due) {
            for (int i = 0; i < 4; i++) {
                Due.due("at " + i / 2 + ", " + i % 2 + " behind " + x.count(0), x.at(i / 2, i % 2), d[i]);
            }
            x.run(1);
        }
        Due.refused("the first visitor that was not told", Due.INDEX, x, y -> y.at(2, 0));
        Due.refused("axis 2", Due.INDEX, x, y -> y.at(1, 2));
        Due.refused("axis -1", Due.INDEX, x, y -> y.at(1, -1));
        Due.refused("visitor -1", Due.INDEX, x, y -> y.at(-1, 0));
    }

    private static void howHeIs() {
        Due.sentence("about: 0 whether he has not come (0), is inside (1), is gone (2); 2 how many things he has seen");
        VisitorSteps x = allInOneCell(1);
        x.room(1);
        x.arrives(1, 0, 0);
        x.arrives(1, 0, 0);
        // Told, not come, in, has seen it, gone; the second waits outside for the first.
        int[][] due = {{0, 0, 0, 0}, {0, 0, 0, 0}, {1, 0, 0, 0}, {1, 1, 0, 0}, {2, 1, 1, 0}, {2, 1, 1, 1}, {2, 1, 2, 1}};
        for (int[] d : due) {
            for (int v = 0; v < 2; v++) {
                Due.due("state of " + v + " behind " + x.count(0), x.about(v, 0), d[2 * v]);
                Due.due("seen by " + v + " behind " + x.count(0), x.about(v, 2), d[2 * v + 1]);
            }
            x.run(1);
        }
        Due.refused("the first visitor that was not told", Due.INDEX, x, y -> y.about(2, 0));
        Due.refused("what 3", Due.INDEX, x, y -> y.about(1, 3));
        Due.refused("what -1", Due.INDEX, x, y -> y.about(1, -1));
        Due.refused("visitor -1", Due.INDEX, x, y -> y.about(-1, 0));
    }

    private static void goals() {
        Due.sentence("about: 1 his goal (a thing, 10 and a door; NONE, if he has none or is not inside)");
        for (int last = 0; last < 6; last++) {
            // All things but the last are behind walls, as are all doors but the last.
            VisitorSteps x = new VisitorSteps(5, 4, 9);
            int doors = Math.min(last, 3);
            for (int i = 0; i < last; i++) {
                x.thing(4, 3, 10, 1);
            }
            for (int i = 0; i < doors; i++) {
                x.door(4, 3);
            }
            x.wall(3, 3, true);
            x.wall(4, 2, true);
            x.door(0, 0);
            x.thing(2, 0, 10, 1);
            x.arrives(0, doors, 0);
            Due.due("before he comes", x.about(0, 1), NONE);
            x.run(1);
            Due.due("when he has come", x.about(0, 1), NONE);
            x.run(1);
            Due.due("a thing", x.about(0, 1), last);
            x.run(2);
            Due.due("when he has seen it", x.about(0, 1), NONE);
            x.run(1);
            Due.due("a door", x.about(0, 1), 10 + doors);
            x.run(2);
            Due.due("gone", x.about(0, 0), 2);
            Due.due("when he is gone", x.about(0, 1), NONE);
        }
    }

    private static void crowds() {
        Due.sentence("crowd: how many visitors are in a cell");
        VisitorSteps x = new VisitorSteps(5, 4, 9);
        x.door(4, 3);
        x.thing(3, 3, 1, 30);
        for (int i = 0; i < 16; i++) {
            x.arrives(i / 8, 0, 0);
        }
        int[][] due = {{0, 0}, {8, 0}, {8, 8}, {0, 16}};
        for (int[] d : due) {
            Due.due("at the door behind " + x.count(0), x.crowd(4, 3), d[0]);
            Due.due("at the thing behind " + x.count(0), x.crowd(3, 3), d[1]);
            Due.due("in the first cell", x.crowd(0, 0), 0);
            x.run(1);
        }
        x.run(100);
        for (int i = 0; i < 20; i++) {
            Due.due("all are gone", x.crowd(i % 5, i / 5), 0);
        }
    }

    private static void secondsOfCells() {
        Due.sentence("stayed: how many seconds visitors were in a cell, all together");
        VisitorSteps x = new VisitorSteps(5, 4, 9);
        x.door(0, 0);
        x.thing(2, 0, 1, 30);
        for (int i = 0; i < 16; i++) {
            x.arrives(0, 0, 0);
        }
        Due.due("before the first second", x.stayed(0, 0), 0);
        x.run(3);
        x.wall(1, 0, true);
        x.wall(2, 1, true);
        x.wall(3, 0, true);
        x.run(97);
        x.run(100);
        x.run(100);
        x.run(100);
        Due.due("one second each at the door", x.stayed(0, 0), 16);
        Due.due("one second each in what is a wall now", x.stayed(1, 0), 16);
        Due.due("398 seconds each, shut in", x.stayed(2, 0), 16 * 398);
        Due.due("never there", x.stayed(4, 3), 0);
        Due.due("all are inside", x.count(4), 16);
    }

    private static void throughDoors() {
        Due.sentence("through: how many visitors came through a door (in), or went out");
        VisitorSteps x = new VisitorSteps(5, 4, 9);
        x.door(4, 3);
        x.door(0, 0);
        x.door(0, 0);
        x.door(0, 0);
        for (int i = 0; i < 16; i++) {
            x.arrives(0, i < 15 ? 3 : 2, 0);
        }
        x.room(15);
        x.run(1);
        Due.due("in through the last door", x.through(3, true), 15);
        Due.due("one waits at the same cell", x.through(2, true), 0);
        Due.due("nobody is out", x.through(1, false), 0);
        x.run(2);
        Due.due("he came through his", x.through(2, true), 1);
        Due.due("nobody came through the lowest there", x.through(1, true), 0);
        Due.due("all went out through the lowest there", x.through(1, false), 16);
        Due.due("none through the last", x.through(3, false) + x.through(2, false), 0);
        Due.due("none through the far one", x.through(0, false) + x.through(0, true), 0);
        Due.refused("door 4", Due.INDEX, x, y -> y.through(4, true));
        Due.refused("door -1", Due.INDEX, x, y -> y.through(-1, false));
    }

    private static void seenByAll() {
        Due.sentence("seen: how many have seen a thing");
        VisitorSteps x = allInOneCell(6);
        for (int i = 0; i < 16; i++) {
            x.arrives(0, 0, 0);
        }
        x.run(1);
        for (int t = 0; t < 6; t++) {
            Due.due("thing " + t + " by none", x.seen(t), 0);
        }
        x.run(8);
        for (int t = 0; t < 6; t++) {
            Due.due("thing " + t + " by all, who are gone", x.seen(t), 16);
        }
        Due.due("gone", x.count(4), 0);
        Due.refused("thing 6", Due.INDEX, x, y -> y.seen(6));
        Due.refused("thing -1", Due.INDEX, x, y -> y.seen(-1));
    }

    private static void distances() {
        Due.sentence("far: the distance of a cell to a thing (0 .. 5) or a door (10 and its number)");
        VisitorSteps x = new VisitorSteps(5, 4, 9);
        for (int goal = 0; goal < 15; goal++) {
            int g = goal;
            Due.refused("without things and doors " + goal, Due.INDEX, x, y -> y.far(0, 0, g));
        }
        for (int t = 0; t < 6; t++) {
            int next = t + 1;
            x.thing(t % 5, 3, 1, 1);
            Due.due("thing " + t, x.far(0, 0, t), 3 + t % 5);
            Due.refused("the next thing", Due.INDEX, x, y -> y.far(0, 0, next));
        }
        for (int d = 0; d < 4; d++) {
            int next = 11 + d;
            x.door(4, d);
            Due.due("door " + d, x.far(0, 0, 10 + d), 4 + d);
            Due.refused("the next door", Due.INDEX, x, y -> y.far(0, 0, next));
        }
        for (int g = 6; g < 10; g++) {
            int between = g;
            Due.refused("between things and doors " + g, Due.INDEX, x, y -> y.far(0, 0, between));
        }
        Due.due("of its own cell", x.far(4, 0, 10), 0);
    }

    private static void noWay() {
        Due.sentence("far: NONE without a way, or in a wall; ways go from cell to cell side by side, not into walls");
        VisitorSteps x = new VisitorSteps(12, 4, 9);
        x.thing(0, 1, 1, 1);
        Due.due("the end of the row above is not beside the start of a row", x.far(11, 0, 0), 12);
        x.wall(0, 0, true);
        x.wall(1, 1, true);
        Due.due("in a wall", x.far(0, 0, 0), NONE);
        Due.due("round the wall", x.far(1, 0, 0), 6);
        x.wall(0, 2, true);
        Due.due("corner to corner is no way", x.far(1, 0, 0), NONE);
        Due.due("no way from the row above", x.far(11, 0, 0), NONE);
        Due.due("no way from the row below", x.far(11, 1, 0), NONE);
        Due.due("its own cell", x.far(0, 1, 0), 0);
        x.wall(0, 2, false);
        Due.due("a way again", x.far(1, 0, 0), 6);
        VisitorSteps snake = snake();
        Due.due("the longest row of rooms", snake.far(0, 11, 10), 77);
        Due.due("the same from the other end", snake.far(0, 0, 0), 77);
    }

    /** Six long rows, joined at their ends by turns: a door at the first cell, a thing at the last, 77 steps apart. */
    private static VisitorSteps snake() {
        VisitorSteps x = new VisitorSteps(12, 12, 9);
        x.door(0, 0);
        x.thing(0, 11, 1, 30);
        for (int row = 1; row < 12; row += 2) {
            int open = row % 4 == 1 ? 11 : 0;
            for (int column = 0; column < 12; column++) {
                if (column != open) {
                    x.wall(column, row, true);
                }
            }
        }
        return x;
    }

    private static void escapeOfNobody() {
        Due.sentence("escape: 0 if nobody is inside; a copy in which nobody comes any more");
        VisitorSteps x = allInOneCell(0);
        Due.due("nobody was told", x.escape(), 0);
        x.arrives(0, 0, 0);
        Due.due("nobody has come", x.escape(), 0);
        x.room(1);
        x.arrives(0, 0, 0);
        x.run(1);
        Due.due("one is inside, one waits at the door", x.escape(), 1);
        x.run(2);
        Due.due("all are gone", x.escape(), 0);
        Due.due("no doors", new VisitorSteps(5, 4, 9).escape(), 0);
    }

    private static void escapeOneByOne() {
        Due.sentence("escape: how many seconds till all are out; the goal of all is the nearest door");
        for (int room = 1; room <= 5; room++) {
            VisitorSteps x = new VisitorSteps(5, 4, 9);
            x.door(0, 0);
            x.thing(4, 0, 1, 30);
            for (int i = 0; i < 4; i++) {
                x.arrives(0, 0, 0);
            }
            x.run(6);
            x.room(room);
            // Four steps and out, and as many seconds more as there are troops behind the first.
            Due.due("with room " + room, x.escape(), 5 + 3 / room);
            x.door(4, 3);
            Due.due("a nearer door with room " + room, x.escape(), 4 + 3 / room);
            x.door(4, 0);
            Due.due("a door in their cell", x.escape(), 1);
            Due.due("nobody has moved", x.crowd(4, 0), 4);
            Due.due("nobody has turned", x.about(3, 1), 0);
        }
    }

    /**
     * No house brings an escape near 200: a way has hardly a hundred steps, and each of 15 others costs two seconds
     * at most. So above 200 are those alone who are shut in; here is the longest that ends.
     */
    private static void escapeByTheLongestWay() {
        Due.sentence("escape: NONE, if that is above 200");
        VisitorSteps x = snake();
        for (int i = 0; i < 16; i++) {
            x.arrives(0, 0, 0);
        }
        x.run(78);
        Due.due("all are at the far end", x.crowd(0, 11), 16);
        Due.due("77 steps and out", x.escape(), 78);
        x.room(1);
        Due.due("one behind the other", x.escape(), 78 + 15);
    }

    private static void escapeWithoutAWay() {
        Due.sentence("escape: NONE, if that is above 200 (as without a way)");
        VisitorSteps x = new VisitorSteps(5, 4, 9);
        x.door(0, 0);
        x.thing(4, 0, 1, 30);
        x.arrives(0, 0, 0);
        x.arrives(4, 0, 0);
        x.run(6);
        Due.due("one is there", x.crowd(4, 0), 1);
        Due.due("one is on his way", x.crowd(1, 0), 1);
        x.wall(3, 0, true);
        Due.due("round the wall", x.escape(), 7);
        x.wall(4, 1, true);
        Due.due("one of two is shut in", x.escape(), NONE);
        Due.due("the second has still his goal", x.about(1, 1), 0);
        x.wall(4, 1, false);
        Due.due("a way again", x.escape(), 7);
    }

    private static void countedLimits() {
        Due.sentence("counted: IllegalArgumentException: n is below NONE or above 100 (NONE: it was not counted)");
        VisitorSteps x = allInOneCell(1);
        Due.due("not counted at first", x.sum(), 0);
        x.counted(0, 100);
        Due.due("100", x.sum(), 10000);
        Due.refused("101", Due.ARGUMENT, x, y -> y.counted(0, 101));
        Due.refused("-2", Due.ARGUMENT, x, y -> y.counted(0, -2));
        Due.due("still 100", x.sum(), 10000);
        x.counted(0, 0);
        Due.due("0", x.sum(), 0);
        x.arrives(0, 0, 0);
        x.run(3);
        Due.due("seen by one, counted by none", x.sum(), 1);
        x.counted(0, 1);
        Due.due("seen by one, counted by one", x.sum(), 0);
        x.counted(0, 2);
        Due.due("seen by one, counted by two", x.sum(), 1);
        x.counted(0, NONE);
        Due.due("not counted any more", x.sum(), 0);
        Due.refused("thing 1", Due.INDEX, x, y -> y.counted(1, 0));
        x.thing(0, 0, 1, 1);
        x.counted(1, 3);
        Due.due("a new thing, which he sees anew in the third second", x.sum(), 4);
    }

    private static void sums() {
        Due.sentence("sum: the sum over all things that were counted of the square of how many have seen it less how many were counted");
        VisitorSteps x = allInOneCell(6);
        for (int t = 0; t < 6; t++) {
            x.counted(t, 100);
            Due.due("so far", x.sum(), 10000 * (t + 1));
        }
        for (int i = 0; i < 16; i++) {
            x.arrives(0, 0, 0);
        }
        x.run(20);
        Due.due("all have seen all", x.sum(), 6 * 84 * 84);
        for (int t = 0; t < 6; t++) {
            x.counted(t, 0);
        }
        Due.due("more than were counted", x.sum(), 6 * 16 * 16);
        x.counted(5, NONE);
        Due.due("the last is not counted", x.sum(), 5 * 16 * 16);
        x.counted(0, NONE);
        Due.due("nor the first", x.sum(), 4 * 16 * 16);
    }

    private static void sumAnew() {
        Due.sentence("run anew: with all that is told now, from second 0 on, as many seconds as have gone by");
        VisitorSteps x = new VisitorSteps(5, 4, 9);
        x.door(0, 0);
        x.thing(4, 0, 1, 2);
        x.arrives(0, 0, 0);
        x.counted(0, 0);
        Due.due("no second has gone by", x.sum(), 0);
        x.run(6);
        Due.due("a second too early", x.sum(), 0);
        x.run(1);
        Due.due("just seen", x.sum(), 1);
        x.wall(1, 0, true);
        Due.due("a wall on the only straight way", x.sum(), 0);
        Due.due("but he has seen it", x.seen(0), 1);
        x.run(2);
        Due.due("two seconds more for the way round", x.sum(), 1);
        x.arrives(9, 0, 0);
        Due.due("one whose second has not gone by", x.sum(), 1);
        x.run(8);
        Due.due("he is a second too early anew", x.sum(), 1);
        x.run(1);
        Due.due("and has seen it a second later", x.sum(), 4);
        x.room(1);
        x.wall(1, 0, false);
        Due.due("with the room of now they stand in each other's way", x.sum(), 1);
        x.door(3, 0);
        Due.due("with a new door the first is out in time", x.sum(), 4);
        Due.due("all that is not anew", x.through(1, false), 0);
    }

    private static void sumAnewWithDoorsAndGroups() {
        Due.sentence("run anew: with all that is told now (each with a second, a door, and a group)");
        VisitorSteps x = new VisitorSteps(5, 4, 9);
        x.door(0, 0);
        x.door(4, 0);
        x.thing(4, 0, 1, 1);
        x.counted(0, 0);
        x.arrives(0, 1, 0);
        x.run(1);
        Due.due("he has come through his door", x.sum(), 0);
        x.run(1);
        Due.due("where the thing is", x.sum(), 1);
        VisitorSteps y = new VisitorSteps(5, 4, 9);
        y.door(0, 0);
        y.thing(1, 0, 1, 3);
        y.counted(0, 0);
        y.arrives(0, 0, 2);
        y.arrives(3, 0, 2);
        int[] seen = {0, 0, 0, 0, 0, 0, 0, 1, 2};
        for (int s = 0; s < seen.length; s++) {
            y.run(1);
            Due.due("anew behind second " + s + " in a group", y.sum(), seen[s] * seen[s]);
            Due.due("in fact behind second " + s, y.seen(0), seen[s]);
        }
    }

    /** So many visitors, each with patience for one of two things, so that seeds and interests alone tell what is seen. */
    private static VisitorSteps twoThings(int seed, int visitors, int first, int second) {
        VisitorSteps x = new VisitorSteps(5, 4, seed);
        x.door(0, 0);
        x.thing(4, 0, first, 1);
        x.thing(0, 3, second, 1);
        x.patience(1);
        for (int i = 0; i < visitors; i++) {
            x.arrives(0, 0, 0);
        }
        x.run(20);
        return x;
    }

    private static void fitRounds() {
        Due.sentence("fit: for so many rounds; rounds is not 1 .. 3");
        // 41 of 52 is one too high: 31, 21 and 11 each lessen the sum, one in each round.
        for (int rounds = 1; rounds <= 3; rounds++) {
            VisitorSteps x = twoThings(100, 8, 41, 52);
            x.counted(0, 1);
            Due.due("before", x.sum(), 25);
            Due.due("kept in " + rounds, x.fit(rounds), rounds);
            Due.due("the interest behind " + rounds, x.interest(0), 41 - 10 * rounds);
            Due.due("the other behind " + rounds, x.interest(1), 52);
        }
        VisitorSteps y = twoThings(100, 8, 41, 52);
        Due.refused("no round", Due.ARGUMENT, y, z -> z.fit(0));
        Due.refused("four rounds", Due.ARGUMENT, y, z -> z.fit(4));
        Due.due("unchanged", y.interest(0), 41);
    }

    private static void fitLimits() {
        Due.sentence("fit: 10 more (100 at most) is tried, then 10 less (1 at least) than its interest as it is just then");
        // Seed, visitors, interests, what was counted; then what is kept in a round, and the interests behind it.
        int[][] rows = {
            {107, 16, 89, 36, 13, 3, 1, 99, 36},
            {95, 16, 22, 90, 14, NONE, 2, 32, 100},
            {41, 16, 58, 91, 16, 0, 1, 58, 100},
            {174, 16, 95, 74, 14, 2, 2, 100, 84},
            {104, 8, 45, 95, 7, 1, 2, 55, 100},
            {171, 16, 2, 12, 13, NONE, 2, 12, 2},
            {120, 4, 4, 11, 4, NONE, 2, 14, 1},
            {18, 16, 10, 1, 0, NONE, 2, 1, 11},
            {165, 16, 5, 19, 1, 15, 2, 1, 9},
            {184, 8, 11, 5, 8, 0, 1, 11, 1},
            // 95 becomes 100, and from there 90.
            {177, 4, 95, 58, 0, NONE, 2, 90, 58},
        };
        for (int[] r : rows) {
            VisitorSteps x = twoThings(r[0], r[1], r[2], r[3]);
            x.counted(0, r[4]);
            x.counted(1, r[5]);
            String what = r[2] + " and " + r[3];
            int before = x.sum();
            Due.due("kept of " + what, x.fit(1), r[6]);
            Due.due("the first of " + what, x.interest(0), r[7]);
            Due.due("the second of " + what, x.interest(1), r[8]);
            Due.due("less than before", x.sum() < before, true);
        }
    }

    private static void fitKeepsLess() {
        Due.sentence("fit: each only if it is another interest; it is kept, if sum() is less with it");
        for (int[] i : new int[][] {{1, 1}, {100, 100}, {1, 100}, {100, 1}, {50, 50}}) {
            VisitorSteps fits = twoThings(9, 16, i[0], i[1]);
            Due.due("nothing is counted", fits.fit(3), 0);
            fits.counted(0, fits.seen(0));
            fits.counted(1, fits.seen(1));
            Due.due("it fits", fits.fit(3), 0);
            Due.due("as it was", fits.interest(0), i[0]);
            Due.due("as it was, too", fits.interest(1), i[1]);
        }
        // Whatever he prefers, one visitor with time for both sees both: no sum is less than another.
        for (int counted : new int[] {0, 2, 100}) {
            VisitorSteps x = allInOneCell(2);
            x.arrives(0, 0, 0);
            x.run(10);
            x.counted(0, counted);
            x.counted(1, counted);
            Due.due("an equal sum is not kept", x.fit(3), 0);
            Due.due("as it was", x.interest(0) + x.interest(1), 20);
        }
        VisitorSteps none = allInOneCell(1);
        none.arrives(0, 0, 0);
        none.counted(0, 5);
        Due.due("no second has gone by", none.fit(3), 0);
        Due.due("no things", new VisitorSteps(5, 4, 9).fit(3), 0);
    }

    private static void interests() {
        Due.sentence("interest: a thing's interest; IndexOutOfBoundsException");
        VisitorSteps x = new VisitorSteps(5, 4, 9);
        Due.refused("no things", Due.INDEX, x, y -> y.interest(0));
        int[] given = {1, 100, 2, 99, 50, 7};
        for (int t = 0; t < 6; t++) {
            int next = t + 1;
            x.thing(t % 5, 0, given[t], 1);
            Due.due("of " + t, x.interest(t), given[t]);
            Due.refused("the next", Due.INDEX, x, y -> y.interest(next));
        }
        Due.due("of the first still", x.interest(0), 1);
        Due.refused("thing -1", Due.INDEX, x, y -> y.interest(-1));
    }

    private static void counts() {
        Due.sentence("count: 0 seconds that have gone by, 1 things, 2 doors, 3 visitors that were told, 4 those inside");
        VisitorSteps x = allInOneCell(6);
        x.door(1, 0);
        for (int i = 0; i < 16; i++) {
            x.arrives(i, 0, 0);
        }
        x.run(16);
        // The last came in second 15; those before him see six things and go out, so 9 .. 15 are inside.
        int[] due = {16, 6, 2, 16, 7, 0};
        for (int what = 0; what < 6; what++) {
            Due.due("count " + what, x.count(what), due[what]);
        }
        Due.refused("count -1", Due.INDEX, x, y -> y.count(-1));
        Due.refused("count 6", Due.INDEX, x, y -> y.count(6));
    }

    private static void waitingOutside() {
        Due.sentence("count: 5 those who wait to come in (their second has gone by)");
        VisitorSteps x = new VisitorSteps(5, 4, 9);
        x.door(0, 0);
        x.thing(0, 0, 1, 30);
        x.room(1);
        x.arrives(0, 0, 0);
        x.arrives(1, 0, 0);
        x.arrives(2, 0, 0);
        x.arrives(400, 0, 0);
        // Behind second 1 he who was told for it waits; he who was told for 2 does not yet.
        int[] due = {0, 0, 1, 2, 2};
        for (int d : due) {
            Due.due("waiting behind " + x.count(0), x.count(5), d);
            x.run(1);
        }
        x.run(95);
        x.run(100);
        x.run(100);
        x.run(100);
        Due.due("400 have gone by", x.count(0), 400);
        Due.due("second 400 has not", x.count(5), 0);
        Due.due("all others are gone", x.through(0, false), 3);
    }
}
