/** The document's terms, sentence by sentence: coming, choosing, steps, looking, groups, going out, counting. */
public final class SecondsTest {
    private static final int NONE = Due.NONE;

    public static void main(String[] args) {
        comesInHisSecond();
        comesIfThereIsRoom();
        comingIsAll();
        asThoseAheadLeftIt();
        firstSuchCell();
        waitsForRoom();
        stepIsAll();
        choosesAndGoesOn();
        keepsHisGoal();
        noWayToHisGoal();
        goesOutThroughHisGoal();
        looksAsLongAsItTakes();
        groupLooksAsLong();
        groupIsWaitedFor();
        groupWithOtherGoals();
        groupIsNotWaitedFor();
        groupsApart();
        choosesAmongInterests();
        choosesByKey();
        choosesByWhatHeHasSeen();
        choosesWhatHasAWay();
        choosesTheNearestDoor();
        hasNone();
        countsBehindAll();
        Due.end();
    }

    private static VisitorSteps house(int doorX, int doorY) {
        VisitorSteps x = new VisitorSteps(5, 4, 0);
        x.door(doorX, doorY);
        return x;
    }

    private static void at(String what, VisitorSteps x, int visitor, int column, int row) {
        Due.due(what + ": x", x.at(visitor, 0), column);
        Due.due(what + ": y", x.at(visitor, 1), row);
    }

    private static void comesInHisSecond() {
        Due.sentence("one who has not come, and whose second is not above this one, comes; the first second is 0");
        VisitorSteps x = house(2, 1);
        x.thing(2, 1, 1, 30);
        for (int i = 0; i < 3; i++) {
            x.arrives(i, 0, 0);
        }
        for (int gone = 1; gone <= 3; gone++) {
            Due.due("inside behind second " + (gone - 1), x.run(1), gone);
            for (int i = 0; i < 3; i++) {
                Due.due("visitor " + i, x.about(i, 0), i < gone ? 1 : 0);
            }
            at("the last", x, gone - 1, 2, 1);
        }
    }

    private static void comesIfThereIsRoom() {
        Due.sentence("comes into his door's cell, if there is room");
        VisitorSteps x = house(0, 0);
        x.thing(0, 0, 1, 3);
        x.room(2);
        for (int i = 0; i < 4; i++) {
            x.arrives(0, 0, 0);
        }
        // Two look in seconds 1 .. 3 and are out in 4, in which the others come.
        int[] inside = {2, 2, 2, 2, 2, 2, 2, 2, 0};
        int[] came = {2, 2, 2, 2, 4, 4, 4, 4, 4};
        for (int s = 0; s < inside.length; s++) {
            Due.due("inside behind second " + s, x.run(1), inside[s]);
            Due.due("came up to second " + s, x.through(0, true), came[s]);
        }
        // Room at another door helps nobody.
        VisitorSteps y = house(0, 0);
        y.door(4, 3);
        y.thing(0, 0, 1, 30);
        y.room(1);
        y.arrives(0, 0, 0);
        y.arrives(0, 0, 0);
        y.arrives(0, 1, 0);
        Due.due("one at each door", y.run(1), 2);
        Due.due("the second at the first door waits", y.about(1, 0), 0);
        Due.due("the third has come", y.about(2, 0), 1);
    }

    private static void comingIsAll() {
        Due.sentence("comes into his door's cell; that is all");
        VisitorSteps x = house(1, 1);
        x.thing(3, 1, 1, 1);
        x.thing(1, 1, 1, 1);
        x.arrives(0, 0, 0);
        x.run(1);
        at("he has made no step", x, 0, 1, 1);
        Due.due("he has no goal", x.about(0, 1), NONE);
        Due.due("he has not looked", x.seen(1), 0);
        VisitorSteps y = house(1, 1);
        y.arrives(0, 0, 0);
        Due.due("he does not go out at once", y.run(1), 1);
        Due.due("but in the next second", y.run(1), 0);
    }

    private static void asThoseAheadLeftIt() {
        Due.sentence("by their numbers, each with all as those ahead of him left it");
        VisitorSteps x = house(0, 0);
        x.room(1);
        x.arrives(0, 0, 0);
        x.arrives(0, 0, 0);
        x.run(2);
        Due.due("the first is out", x.about(0, 0), 2);
        Due.due("and the second in, in the same second", x.about(1, 0), 1);
        VisitorSteps y = house(0, 0);
        y.room(1);
        y.arrives(1, 0, 0);
        y.arrives(0, 0, 0);
        y.run(2);
        Due.due("the second is out", y.about(1, 0), 2);
        Due.due("the first could not come before", y.about(0, 0), 0);
        y.run(1);
        Due.due("he comes then", y.about(0, 0), 1);
        // On their way: behind a lower number one goes on at once, behind a higher one a second later.
        for (int first = 0; first < 2; first++) {
            VisitorSteps z = house(0, 0);
            z.thing(4, 0, 1, 30);
            z.room(1);
            z.arrives(first, 0, 0);
            z.arrives(1 - first, 0, 0);
            z.run(3);
            at("he who came first", z, first, 2, 0);
            at("he who came then, behind number " + first, z, 1 - first, first == 0 ? 1 : 0, 0);
        }
    }

    private static void firstSuchCell() {
        Due.sentence("the cell next to him (up, right, down, left: the first such) whose distance to it is one less");
        // Door, thing, a wall between them or NONE; the first step.
        int[][] ways = {
            {0, 3, 3, 0, NONE, NONE, 0, 2}, {3, 3, 0, 0, NONE, NONE, 3, 2}, {0, 0, 3, 3, NONE, NONE, 1, 0},
            {3, 0, 0, 3, NONE, NONE, 3, 1}, {1, 1, 3, 1, 2, 1, 1, 0}, {2, 0, 2, 2, 2, 1, 3, 0}, {0, 2, 3, 2, 1, 2, 0, 1},
            {3, 0, 0, 0, NONE, NONE, 2, 0}, {0, 0, 3, 0, NONE, NONE, 1, 0}, {0, 3, 0, 0, NONE, NONE, 0, 2},
            {0, 0, 0, 3, NONE, NONE, 0, 1}, {0, 0, 3, 0, 1, 0, 0, 1}, {3, 3, 0, 3, 2, 3, 3, 2},
        };
        for (int[] w : ways) {
            VisitorSteps x = new VisitorSteps(4, 4, 0);
            x.door(w[0], w[1]);
            x.thing(w[2], w[3], 1, 1);
            if (w[4] != NONE) {
                x.wall(w[4], w[5], true);
            }
            x.arrives(0, 0, 0);
            x.run(2);
            at("from " + w[0] + " " + w[1] + " to " + w[2] + " " + w[3], x, 0, w[6], w[7]);
        }
    }

    private static void waitsForRoom() {
        Due.sentence("takes a step, if there is room, else he waits");
        for (int room = 1; room <= 4; room++) {
            VisitorSteps x = house(0, 0);
            x.thing(1, 0, 1, 30);
            for (int i = 0; i < 4; i++) {
                x.arrives(0, 0, 0);
            }
            x.run(1);
            x.room(room);
            x.run(1);
            Due.due("steps with room " + room, x.crowd(1, 0), room);
            Due.due("waiting with room " + room, x.crowd(0, 0), 4 - room);
            Due.due("one who waits has his goal", x.about(3, 1), 0);
        }
        // The first such cell is full; another such cell is free, but is not the first.
        VisitorSteps y = house(1, 0);
        y.thing(1, 0, 1, 30);
        y.room(1);
        y.arrives(0, 0, 0);
        y.run(2);
        y.door(0, 0);
        y.thing(4, 3, 1, 1);
        y.arrives(2, 1, 0);
        y.run(1);
        y.run(20);
        at("he waits", y, 1, 0, 0);
        Due.due("for the first such cell", y.crowd(0, 1), 0);
    }

    private static void stepIsAll() {
        Due.sentence("he takes a step, else he waits (and that is all he does in that second)");
        VisitorSteps x = house(0, 0);
        x.thing(1, 0, 1, 1);
        x.arrives(0, 0, 0);
        x.run(2);
        at("he has come to the thing", x, 0, 1, 0);
        Due.due("he has not looked yet", x.seen(0), 0);
        x.run(1);
        Due.due("he looks in the next second", x.seen(0), 1);
        Due.due("and has no goal", x.about(0, 1), NONE);
        x.run(1);
        at("he has come to the door", x, 0, 0, 0);
        Due.due("he is not out yet", x.about(0, 0), 1);
        Due.due("he is out in the next second", x.run(1), 0);
        // Seconds of waiting are no seconds of looking.
        VisitorSteps y = house(0, 0);
        y.thing(1, 0, 1, 3);
        y.room(1);
        y.arrives(0, 0, 0);
        y.arrives(0, 0, 0);
        y.run(5);
        Due.due("the first has seen it", y.about(0, 2), 1);
        y.room(2);
        y.run(1);
        at("the second is there", y, 1, 1, 0);
        y.run(2);
        Due.due("two seconds are too short", y.about(1, 2), 0);
        y.run(1);
        Due.due("three are long enough", y.about(1, 2), 1);
    }

    private static void choosesAndGoesOn() {
        Due.sentence("one who has no goal chooses. Then, with a goal: (in the same second)");
        VisitorSteps x = house(0, 0);
        x.thing(0, 0, 1, 1);
        x.thing(3, 0, 1, 1);
        x.arrives(0, 0, 0);
        x.run(1);
        Due.due("none", x.about(0, 1), NONE);
        // With seed 0 z is 28652: modulo 2 that is thing 0, in his cell.
        x.run(1);
        Due.due("he has chosen and looked", x.seen(0), 1);
        Due.due("and has none again", x.about(0, 1), NONE);
        x.run(1);
        Due.due("he has chosen", x.about(0, 1), 1);
        at("and stepped", x, 0, 1, 0);
        VisitorSteps y = house(2, 2);
        y.arrives(0, 0, 0);
        y.run(1);
        Due.due("he chooses the door in his cell and is out", y.run(1), 0);
    }

    private static void keepsHisGoal() {
        Due.sentence("one who has no goal, or from whom there is no way to it, chooses (and no other)");
        VisitorSteps x = house(0, 0);
        x.thing(4, 0, 1, 1);
        x.arrives(0, 0, 0);
        x.run(2);
        x.thing(2, 0, 100, 1);
        x.wall(3, 0, true);
        x.run(1);
        Due.due("a nearer thing and a wall do not turn him", x.about(0, 1), 0);
        x.patience(1);
        x.run(5);
        Due.due("he has come round it and looked", x.seen(0), 1);
        x.run(2);
        Due.due("he goes to the only door", x.about(0, 1), 10);
        x.door(4, 3);
        x.run(1);
        Due.due("a nearer door does not turn him", x.about(0, 1), 10);
    }

    private static void noWayToHisGoal() {
        Due.sentence("from whom there is no way to it, chooses");
        VisitorSteps x = house(0, 0);
        x.thing(4, 0, 100, 1);
        x.thing(0, 3, 1, 1);
        x.arrives(0, 0, 0);
        x.run(2);
        Due.due("28652 modulo 101 is 69: thing 0", x.about(0, 1), 0);
        x.wall(3, 0, true);
        x.run(1);
        Due.due("there is another way", x.about(0, 1), 0);
        x.wall(4, 1, true);
        int column = x.at(0, 0);
        int row = x.at(0, 1);
        Due.due("he keeps it till his second", x.about(0, 1), 0);
        x.run(1);
        Due.due("now he goes to the other", x.about(0, 1), 1);
        Due.due("and has made a step", x.far(x.at(0, 0), x.at(0, 1), 1), x.far(column, row, 1) - 1);
        x.wall(4, 1, false);
        x.run(1);
        Due.due("which he keeps", x.about(0, 1), 1);
    }

    private static void goesOutThroughHisGoal() {
        Due.sentence("if he is in the cell of a door, which is his goal, he goes out");
        VisitorSteps x = house(0, 0);
        x.thing(4, 0, 1, 1);
        x.door(2, 0);
        x.arrives(0, 0, 0);
        x.run(3);
        at("he is in a door's cell", x, 0, 2, 0);
        Due.due("which is not his goal", x.run(1), 1);
        at("he goes on", x, 0, 3, 0);
        x.run(2);
        Due.due("he has seen it", x.seen(0), 1);
        x.run(2);
        Due.due("back at the nearest door", x.about(0, 1), 11);
        Due.due("he goes out", x.run(1), 0);
        Due.due("through it", x.through(1, false), 1);
        Due.due("not through the one he came by", x.through(0, false), 0);
    }

    private static void looksAsLongAsItTakes() {
        Due.sentence("when he has looked as long as it takes, he has seen it, and has no goal");
        for (int stay : new int[] {1, 2, 30}) {
            VisitorSteps x = house(0, 0);
            x.thing(2, 0, 1, stay);
            x.arrives(0, 0, 0);
            x.run(2 + stay);
            Due.due("a second less than " + stay, x.about(0, 2), 0);
            Due.due("it is his goal", x.about(0, 1), 0);
            x.run(1);
            Due.due("after " + stay, x.about(0, 2), 1);
            Due.due("no goal", x.about(0, 1), NONE);
            at("he is still there", x, 0, 2, 0);
        }
        // What he has looked at one thing does not count for the next in the same cell.
        VisitorSteps y = house(0, 0);
        y.thing(0, 0, 1, 4);
        y.thing(0, 0, 1, 4);
        y.arrives(0, 0, 0);
        y.run(5);
        Due.due("the first", y.about(0, 2), 1);
        y.run(3);
        Due.due("not yet the second", y.about(0, 2), 1);
        y.run(1);
        Due.due("the second", y.about(0, 2), 2);
    }

    /** A thing of three seconds beside the door, and two of a group, the later one so many seconds behind. */
    private static VisitorSteps pair(int group, int other, int behind) {
        VisitorSteps x = house(0, 0);
        x.thing(1, 0, 1, 3);
        x.arrives(0, 0, group);
        x.arrives(behind, 0, other);
        return x;
    }

    private static void groupLooksAsLong() {
        Due.sentence("(in a group) all of his group who are inside have that goal, too, are in its cell, and have looked as long");
        for (int group = 1; group <= 3; group++) {
            for (int behind = 0; behind <= 3; behind++) {
                // He who comes last has looked three seconds at 4 + behind, in which he sees it; the first sees it then.
                VisitorSteps x = pair(group, group, behind);
                x.run(4 + behind);
                Due.due("the first waits for the last", x.about(0, 2), 0);
                Due.due("the last has looked two seconds", x.about(1, 2), 0);
                x.run(1);
                Due.due("the last has seen it", x.about(1, 2), 1);
                Due.due("the first had looked ahead of him", x.about(0, 2), 0);
                Due.due("and has still his goal", x.about(0, 1), 0);
                x.run(1);
                Due.due("the first has seen it, too", x.about(0, 2), 1);
            }
        }
        // When he who comes last is the lower number, the other sees it behind him in the same second.
        VisitorSteps y = house(0, 0);
        y.thing(1, 0, 1, 3);
        y.arrives(2, 0, 1);
        y.arrives(0, 0, 1);
        y.run(6);
        Due.due("nobody yet", y.seen(0), 0);
        y.run(1);
        Due.due("both in the same second", y.seen(0), 2);
    }

    /** The first of a group is at a thing of two seconds, the second two steps away from the door. */
    private static VisitorSteps pairOnALongWay() {
        VisitorSteps x = house(0, 0);
        x.thing(4, 0, 1, 2);
        x.arrives(0, 0, 3);
        x.arrives(3, 0, 3);
        x.run(6);
        return x;
    }

    private static void groupIsWaitedFor() {
        Due.sentence("(in a group) all of his group who are inside have that goal, too, are in its cell");
        // One is inside, but has no goal yet.
        VisitorSteps x = house(0, 0);
        x.thing(0, 0, 1, 1);
        x.arrives(1, 0, 1);
        x.arrives(0, 0, 1);
        x.run(2);
        Due.due("he has just come, and is waited for", x.seen(0), 0);
        x.run(1);
        Due.due("now both", x.seen(0), 2);
        // One has that goal, but waits where it is full.
        VisitorSteps y = pair(2, 2, 0);
        y.run(1);
        y.room(1);
        y.run(30);
        Due.due("one stands at the thing", y.crowd(1, 0), 1);
        Due.due("one cannot come to it", y.crowd(0, 0), 1);
        Due.due("so nobody sees it", y.seen(0), 0);
        y.room(2);
        y.run(5);
        Due.due("till there is room", y.seen(0), 2);
        // One is shut in without any goal.
        VisitorSteps z = pairOnALongWay();
        at("the second is on his way", z, 1, 2, 0);
        z.wall(1, 0, true);
        z.wall(2, 1, true);
        z.wall(3, 0, true);
        z.run(50);
        Due.due("the second has no goal", z.about(1, 1), NONE);
        Due.due("and is waited for", z.about(0, 2), 0);
        z.wall(1, 1, true);
        z.wall(0, 1, true);
        z.wall(1, 0, false);
        z.run(3);
        Due.due("he has found a way out", z.about(1, 0), 2);
        Due.due("but not before the first had looked", z.about(0, 2), 0);
        z.run(1);
        Due.due("now the first waits for nobody", z.about(0, 2), 1);
    }

    private static void groupWithOtherGoals() {
        Due.sentence("(in a group) all of his group who are inside have that goal, too");
        // The first has chosen when there was but one thing; the second takes another one, in the same cell.
        VisitorSteps x = new VisitorSteps(5, 4, 6);
        x.door(0, 0);
        x.thing(0, 0, 1, 3);
        x.arrives(0, 0, 1);
        x.run(2);
        x.thing(0, 0, 100, 3);
        x.arrives(2, 0, 1);
        x.run(2);
        Due.due("the goal of the first", x.about(0, 1), 0);
        Due.due("the goal of the second", x.about(1, 1), 1);
        x.run(50);
        Due.due("both are in one cell", x.crowd(0, 0), 2);
        Due.due("and wait for each other for ever", x.seen(0) + x.seen(1), 0);
        Due.due("the first still has his", x.about(0, 1), 0);
        Due.due("the second still has his", x.about(1, 1), 1);
        Due.due("an escape does not wait", x.escape(), 1);
    }

    private static void groupIsNotWaitedFor() {
        Due.sentence("all of his group who are inside (or have seen it already)");
        // One is not inside yet: the first has looked three seconds at 4, the second comes in 5.
        VisitorSteps x = pair(1, 1, 5);
        x.run(5);
        Due.due("he who has not come", x.about(0, 2), 1);
        VisitorSteps y = pair(1, 1, 4);
        y.run(5);
        Due.due("he who comes in the same second, but behind him", y.about(0, 2), 1);
        VisitorSteps z = pair(1, 1, 3);
        z.run(5);
        Due.due("he who came a second before is waited for", z.about(0, 2), 0);
        // One has seen it already, and is elsewhere; the other comes later.
        VisitorSteps w = house(0, 0);
        w.thing(1, 0, 1, 1);
        w.thing(4, 3, 1, 30);
        w.patience(1);
        w.arrives(0, 0, 1);
        w.run(3);
        Due.due("the first has seen 0", w.seen(0), 1);
        w.patience(6);
        w.run(1);
        Due.due("and goes to 1", w.about(0, 1), 1);
        w.arrives(4, 0, 1);
        w.run(3);
        Due.due("the first is inside", w.about(0, 0), 1);
        Due.due("the second has seen 0 without him", w.about(1, 2), 1);
        // One is gone without having seen it.
        VisitorSteps v = house(0, 0);
        v.arrives(0, 0, 1);
        v.run(2);
        Due.due("the first is gone", v.about(0, 0), 2);
        v.thing(1, 0, 1, 1);
        v.arrives(2, 0, 1);
        v.run(3);
        Due.due("the second has seen it", v.about(1, 2), 1);
    }

    private static void groupsApart() {
        Due.sentence("a group 0 .. 3 (0: alone)");
        for (int group = 0; group <= 3; group++) {
            for (int other = 0; other <= 3; other++) {
                VisitorSteps x = pair(group, other, 2);
                x.run(5);
                boolean waits = group == other && group != 0;
                Due.due("groups " + group + " and " + other, x.about(0, 2), waits ? 0 : 1);
            }
        }
    }

    /** What he chooses of interests 10, 20, 30 in his second second; those before him, of a group or alone, come never. */
    private static int choice(int seed, int number, int groupBefore, int group) {
        VisitorSteps x = new VisitorSteps(5, 4, seed);
        x.door(0, 0);
        x.thing(4, 0, 10, 1);
        x.thing(4, 3, 20, 1);
        x.thing(0, 3, 30, 1);
        for (int i = 0; i < number; i++) {
            x.arrives(400, 0, groupBefore);
        }
        x.arrives(0, 0, group);
        x.run(2);
        return x.about(number, 1);
    }

    private static void choosesAmongInterests() {
        Due.sentence("z modulo the sum of their interests: the first of them at which the sum of interests so far is above that");
        // With these seeds z modulo 60 is 0, 9, 10, 29, 30, 59.
        int[][] edges = {{811, 0}, {166, 0}, {4, 1}, {500, 1}, {317, 2}, {6, 2}};
        for (int[] e : edges) {
            Due.due("with seed " + e[0], choice(e[0], 0, 0, 0), e[1]);
        }
    }

    private static void choosesByKey() {
        Due.sentence("key being his number (in a group the lowest number of all who were told for it); modulo 65537");
        Due.due("number 8 with seed 0", choice(0, 8, 0, 0), 1);
        Due.due("number 9 with seed 0, above 65537", choice(0, 9, 0, 0), 2);
        Due.due("number 15 with seed 65536", choice(65536, 15, 0, 0), 1);
        // 65536, 65537 and 65538 in all: z modulo 60 is 16, 32, 5.
        Due.due("just below 65537", choice(57617, 1, 0, 0), 1);
        Due.due("just 65537", choice(57618, 1, 0, 0), 2);
        Due.due("just above 65537", choice(57619, 1, 0, 0), 0);
        // Numbers 0 .. 5 alone choose 2, 0, 2, 2, 1, 0 with seed 0.
        int[] alone = {2, 0, 2, 2, 1, 0};
        for (int number = 0; number < 6; number++) {
            Due.due("alone " + number, choice(0, number, 0, 0), alone[number]);
            Due.due("alone behind a group " + number, choice(0, number, 1, 0), alone[number]);
            Due.due("the first of a group " + number, choice(0, number, 0, 3), alone[number]);
            Due.due("the first of another group " + number, choice(0, number, 1, 2), alone[number]);
            Due.due("of a group whose first is 0 " + number, choice(0, number, 2, 2), alone[0]);
        }
    }

    private static void choosesByWhatHeHasSeen() {
        Due.sentence("101 c, c how many he has seen; modulo 65537");
        // In all 65536, 65537, 65538: of 10, 20, 30 the second, the third, the first.
        int[] due = {1, 2, 0};
        for (int c = 1; c <= 3; c++) {
            for (int i = 0; i < 3; i++) {
                VisitorSteps x = new VisitorSteps(5, 4, 65536 + i - 101 * c);
                x.door(0, 0);
                for (int k = 0; k < c; k++) {
                    x.thing(0, 0, 7, 1);
                }
                x.arrives(0, 0, 0);
                x.run(1 + c);
                Due.due("seen", x.about(0, 2), c);
                x.thing(4, 0, 10, 1);
                x.thing(4, 3, 20, 1);
                x.thing(0, 3, 30, 1);
                x.run(1);
                Due.due("with c " + c + " and " + (65536 + i) + " in all", x.about(0, 1), c + due[i]);
            }
        }
    }

    private static void choosesWhatHasAWay() {
        Due.sentence("of the things he has not seen, to which there is a way");
        // With seed 0 z is 28652: modulo 60 that is 32, thing 2; without thing 2 modulo 30 it is 2, thing 0.
        VisitorSteps x = house(0, 0);
        x.thing(4, 0, 10, 1);
        x.thing(4, 3, 20, 1);
        x.thing(2, 2, 30, 1);
        x.wall(2, 1, true);
        x.wall(1, 2, true);
        x.wall(3, 2, true);
        x.arrives(0, 0, 0);
        x.run(2);
        Due.due("there is a way to all", x.about(0, 1), 2);
        VisitorSteps y = house(0, 0);
        y.thing(4, 0, 10, 1);
        y.thing(4, 3, 20, 1);
        y.thing(2, 2, 30, 1);
        y.wall(2, 1, true);
        y.wall(1, 2, true);
        y.wall(3, 2, true);
        y.wall(2, 3, true);
        y.arrives(0, 0, 0);
        y.run(2);
        Due.due("there is none to thing 2", y.about(0, 1), 0);
        y.run(60);
        Due.due("he has seen the others", y.about(0, 2), 2);
        Due.due("and is gone", y.about(0, 0), 2);
    }

    private static void choosesTheNearestDoor() {
        Due.sentence("without any such thing the nearest door, of equal ones the lowest");
        // From the thing at 2 0: doors so far to the left and to the right.
        int[][] doors = {{0, 4, 10}, {4, 0, 10}, {1, 4, 10}, {4, 1, 11}, {0, 3, 11}, {3, 0, 10}, {2, 2, 10}};
        for (int[] d : doors) {
            VisitorSteps x = new VisitorSteps(5, 4, 0);
            x.door(d[0], 0);
            x.door(d[1], 0);
            x.door(2, 3);
            x.thing(2, 0, 1, 1);
            x.arrives(0, 2, 0);
            x.run(5);
            Due.due("he has seen it", x.seen(0), 1);
            x.run(10);
            Due.due("out by the door of " + d[0] + " and " + d[1], x.through(d[2] - 10, false), 1);
        }
        // Near as the crow flies is not near by ways.
        VisitorSteps y = house(0, 0);
        y.door(4, 1);
        y.thing(4, 0, 1, 1);
        y.arrives(0, 0, 0);
        y.run(4);
        y.wall(3, 1, true);
        y.wall(4, 2, true);
        y.run(2);
        Due.due("he has seen it", y.seen(0), 1);
        y.run(2);
        Due.due("beside him", y.through(1, false), 1);
    }

    private static void hasNone() {
        Due.sentence("without a way to any he has none");
        VisitorSteps x = house(0, 0);
        x.thing(4, 0, 1, 1);
        x.arrives(0, 0, 0);
        x.run(5);
        x.wall(3, 0, true);
        x.wall(4, 1, true);
        Due.due("he is inside", x.run(1), 1);
        Due.due("he has seen it", x.seen(0), 1);
        Due.due("shut in", x.run(10), 1);
        Due.due("without a goal", x.about(0, 1), NONE);
        at("he stays", x, 0, 4, 0);
        x.thing(4, 0, 1, 2);
        x.run(1);
        Due.due("a thing in his cell", x.about(0, 1), 1);
        x.run(1);
        Due.due("he has seen it", x.about(0, 2), 2);
        x.wall(4, 1, false);
        x.run(1);
        Due.due("a way to the door", x.about(0, 1), 10);
        at("he goes", x, 0, 4, 1);
        Due.due("and is out in the end", x.run(10), 0);
    }

    private static void countsBehindAll() {
        Due.sentence("behind all, each who is inside counts one second for his cell");
        VisitorSteps x = house(0, 0);
        x.thing(1, 0, 1, 1);
        x.arrives(0, 0, 0);
        x.arrives(2, 0, 0);
        // Seconds at the door and at the thing: comes; steps; looks, the other comes; back, the other steps; out, ..
        int[][] due = {{0, 0}, {1, 0}, {1, 1}, {2, 2}, {3, 3}, {3, 4}, {4, 4}, {4, 4}};
        for (int[] d : due) {
            Due.due("at the door behind " + x.count(0), x.stayed(0, 0), d[0]);
            Due.due("at the thing behind " + x.count(0), x.stayed(1, 0), d[1]);
            x.run(1);
        }
    }
}
