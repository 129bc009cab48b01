import java.io.IOException;
import java.nio.file.Files;
import java.nio.file.Path;
import java.util.Random;

/**
 * The document read once more from its first line: what stands between its sentences, or holds for a whole life of an
 * object, and what README.md shows. Each object here is used for at most the 512 calls that the document grants.
 */
public final class DocumentTest {
    private static final int NONE = Due.NONE;
    private static final int MOST_CALLS = 512;

    public static void main(String[] args) throws IOException {
        lastOfAllCalls();
        objectsApart();
        keyOfThoseWhoAreGone();
        interestsOfAllWays();
        secondsOfTheMap();
        stepsOfAll();
        anewWithPatience();
        anewWithWhatWasTakenAway();
        anewChangesNothing();
        escapeThroughTheLowestOfEqualDoors();
        escapeByDifferentDoors();
        escapeBehindTheLastSecond();
        fitByItsWords();
        fitIsFollowed();
        readme();
        Due.end();
    }

    private static VisitorSteps house(int seed) {
        VisitorSteps x = new VisitorSteps(5, 4, seed);
        x.door(0, 0);
        return x;
    }

    /** Three things of interests 10, 20, 30, a wall, a visitor: six calls. */
    private static VisitorSteps threeThings(int seed) {
        VisitorSteps x = house(seed);
        x.thing(4, 0, 10, 2);
        x.thing(4, 3, 20, 3);
        x.thing(0, 3, 30, 1);
        x.wall(2, 2, true);
        x.arrives(0, 0, 0);
        return x;
    }

    private static void lastOfAllCalls() {
        Due.sentence("an object is used for at most 512 calls after it has been made");
        VisitorSteps x = threeThings(3);
        VisitorSteps twin = threeThings(3);
        int calls = 6;
        x.run(12);
        twin.run(12);
        calls++;
        int kinds = 0;
        while (calls < MOST_CALLS - 3) {
            askSomething(x, kinds);
            kinds++;
            calls++;
        }
        Due.due("the third last call", x.thing(1, 3, 40, 2), twin.thing(1, 3, 40, 2));
        Due.due("the second last call", x.run(7), twin.run(7));
        Due.due("the last call", x.about(0, 1), twin.about(0, 1));
    }

    /** Questions, and what is refused: none of them changes anything. */
    private static void askSomething(VisitorSteps x, int kind) {
        switch (kind % 8) {
            case 0: Due.due("inside", x.count(4), 1); break;
            case 1: Due.due("a thing", x.interest(1), 20); break;
            case 2: Due.due("nothing is counted", x.sum(), 0); break;
            case 3: Due.due("nothing is fitted", x.fit(3), 0); break;
            case 4: Due.due("he can get out", x.escape() > 0, true); break;
            case 5: Due.refused("no second", Due.ARGUMENT, x, y -> y.run(0)); break;
            case 6: Due.refused("no such visitor", Due.INDEX, x, y -> y.about(1, 0)); break;
            default: Due.due("a wall already", x.wall(2, 2, true), false); break;
        }
    }

    private static void objectsApart() {
        Due.sentence("a house without walls, things, doors, visitors, at second 0 (whatever other houses hold)");
        VisitorSteps x = threeThings(3);
        VisitorSteps y = threeThings(4);
        for (int i = 0; i < 20; i++) {
            x.run(1);
            y.run(2);
            y.escape();
            y.sum();
        }
        VisitorSteps alone = threeThings(3);
        alone.run(20);
        Due.due("used by turns with another", Due.look(x), Due.look(alone));
        Due.due("a new one beside them", Due.look(new VisitorSteps(5, 4, 3)), Due.look(new VisitorSteps(5, 4, 4)));
        VisitorSteps fresh = new VisitorSteps(5, 4, 3);
        Due.due("no wall", fresh.wall(2, 2, false), false);
        Due.due("no second", fresh.count(0), 0);
    }

    private static void keyOfThoseWhoAreGone() {
        Due.sentence("in a group the lowest number of all who were told for it");
        // With seed 0 and c 0 the keys 0 .. 5 choose 2, 0, 2, 2, 1, 0 of 10, 20, 30.
        VisitorSteps x = house(0);
        x.arrives(400, 0, 1);
        x.arrives(0, 0, 2);
        x.run(2);
        Due.due("the lowest of his group is gone", x.about(1, 0), 2);
        x.thing(4, 0, 10, 30);
        x.thing(4, 3, 20, 30);
        x.thing(0, 3, 30, 30);
        x.arrives(2, 0, 2);
        x.arrives(2, 0, 0);
        x.arrives(2, 0, 2);
        x.arrives(2, 0, 1);
        x.run(2);
        Due.due("2, key 1", x.about(2, 1), 0);
        Due.due("3, alone", x.about(3, 1), 2);
        Due.due("4, key 1", x.about(4, 1), 0);
        Due.due("5, key 0, who has not come", x.about(5, 1), 2);
    }

    private static void interestsOfAllWays() {
        Due.sentence("of the things he has not seen, to which there is a way: the sum of their interests");
        // Each set of the three things without a way, and each z of 60 seeds: the words, counted out.
        for (int shut = 0; shut < 7; shut++) {
            for (int seed = 0; seed < 60; seed++) {
                VisitorSteps x = new VisitorSteps(7, 4, seed);
                x.door(0, 3);
                int[] interests = {3, 10, 7};
                int sum = 0;
                for (int t = 0; t < 3; t++) {
                    x.thing(1 + 2 * t, 0, interests[t], 1);
                    if ((shut >> t & 1) != 0) {
                        x.wall(2 * t, 0, true);
                        x.wall(1 + 2 * t, 1, true);
                        x.wall(2 + 2 * t, 0, true);
                    } else {
                        sum += interests[t];
                    }
                }
                x.arrives(0, 0, 0);
                x.run(2);
                Due.due("shut " + shut + ", seed " + seed, x.about(0, 1), chosen(seed, interests, shut, sum));
            }
        }
    }

    private static int chosen(int seed, int[] interests, int shut, int sum) {
        long z = seed;
        z = (75 * z + 74) % 65537;
        z = (75 * z + 74) % 65537;
        z = (75 * z + 74) % 65537;
        z %= sum;
        int soFar = 0;
        for (int t = 0; t < 3; t++) {
            soFar += (shut >> t & 1) != 0 ? 0 : interests[t];
            if (soFar > z) {
                return t;
            }
        }
        return NONE;
    }

    /** The same house with the same number has the same walls, things, doors, visitors. */
    private static VisitorSteps someHouse(int number) {
        Random dice = new Random(number);
        VisitorSteps x = new VisitorSteps(5, 4, dice.nextInt(65537));
        for (int i = 0; i < 2; i++) {
            x.door(dice.nextInt(5), dice.nextInt(4));
        }
        for (int i = 0; i < 4; i++) {
            x.thing(dice.nextInt(5), dice.nextInt(4), 1 + dice.nextInt(100), 1 + dice.nextInt(4));
        }
        for (int i = 0; i < 5; i++) {
            x.wall(dice.nextInt(5), dice.nextInt(4), true);
        }
        for (int i = 0; i < 12; i++) {
            x.arrives(dice.nextInt(10), dice.nextInt(2), number % 2 == 0 ? 0 : dice.nextInt(4));
        }
        x.room(1 + dice.nextInt(4));
        return x;
    }

    private static void secondsOfTheMap() {
        Due.sentence("counts through doors, a map of seconds");
        for (int number = 0; number < 40; number++) {
            VisitorSteps x = someHouse(number);
            int seconds = 0;
            for (int s = 0; s < 30; s++) {
                seconds += x.run(1);
            }
            Due.due("all seconds of house " + number, all(x, true), seconds);
            Due.due("all in their cells", all(x, false), x.count(4));
            int[] states = new int[3];
            int views = 0;
            for (int v = 0; v < 12; v++) {
                states[x.about(v, 0)]++;
                views += x.about(v, 2);
            }
            Due.due("those inside", x.count(4), states[1]);
            Due.due("those who came", x.through(0, true) + x.through(1, true), states[1] + states[2]);
            Due.due("those who went", x.through(0, false) + x.through(1, false), states[2]);
            Due.due("those who wait", x.count(5), states[0]);
            int seen = 0;
            for (int t = 0; t < x.count(1); t++) {
                seen += x.seen(t);
            }
            Due.due("all that was seen", seen, views);
        }
    }

    private static int all(VisitorSteps x, boolean seconds) {
        int all = 0;
        for (int i = 0; i < 20; i++) {
            all += seconds ? x.stayed(i % 5, i / 5) : x.crowd(i % 5, i / 5);
        }
        return all;
    }

    private static void stepsOfAll() {
        Due.sentence("they walk the shortest ways round walls, wait where cells are full");
        for (int number = 0; number < 40; number++) {
            for (int s = 1; s < 25; s++) {
                VisitorSteps before = someHouse(number);
                VisitorSteps x = someHouse(number);
                int room = x.room(16);
                x.room(room);
                before.run(s);
                x.run(s + 1);
                for (int v = 0; v < 12; v++) {
                    if (before.about(v, 0) == 1 && x.about(v, 0) == 1) {
                        oneSecondOf(before, x, v, room);
                    }
                }
            }
        }
    }

    private static void oneSecondOf(VisitorSteps before, VisitorSteps x, int v, int room) {
        int dx = Math.abs(x.at(v, 0) - before.at(v, 0));
        int dy = Math.abs(x.at(v, 1) - before.at(v, 1));
        Due.due("a step at most", dx + dy <= 1, true);
        Due.due("no more than there is room for", x.crowd(x.at(v, 0), x.at(v, 1)) <= room, true);
        int goal = x.about(v, 1);
        if (dx + dy == 1) {
            int far = before.far(before.at(v, 0), before.at(v, 1), goal);
            Due.due("one nearer to his goal", x.far(x.at(v, 0), x.at(v, 1), goal), far - 1);
            Due.due("a step is all", x.about(v, 2), before.about(v, 2));
        }
        if (before.about(v, 1) != NONE && goal != NONE) {
            Due.due("he keeps his goal while there is a way", goal, before.about(v, 1));
        }
    }

    private static void anewWithPatience() {
        Due.sentence("run anew: with all that is told now (patience)");
        VisitorSteps x = house(9);
        for (int t = 0; t < 6; t++) {
            x.thing(0, 0, 10, 1);
            x.counted(t, 0);
        }
        x.arrives(0, 0, 0);
        x.run(20);
        for (int patience = 1; patience <= 6; patience++) {
            x.patience(patience);
            Due.due("seen anew with patience " + patience, x.sum(), patience);
            Due.due("and in fact", x.about(0, 2), 6);
        }
    }

    private static void anewWithWhatWasTakenAway() {
        Due.sentence("run anew: with all that is told now, from second 0 on (walls that are none any more)");
        VisitorSteps x = house(9);
        x.thing(4, 0, 10, 1);
        x.counted(0, 0);
        x.wall(3, 0, true);
        x.wall(4, 1, true);
        x.arrives(0, 0, 0);
        x.run(6);
        Due.due("he had no way", x.about(0, 2), 0);
        Due.due("nor anew", x.sum(), 0);
        x.wall(3, 0, false);
        Due.due("now he would have had one", x.sum(), 1);
        Due.due("he is gone", x.about(0, 0), 2);
    }

    private static void anewChangesNothing() {
        Due.sentence("sum, fit: the run anew answers; visitors, counts and the map are as they were");
        for (int number = 0; number < 20; number++) {
            VisitorSteps x = someHouse(number);
            VisitorSteps twin = someHouse(number);
            x.run(9);
            twin.run(9);
            // Anew all would go another way; nothing is counted, so that fit keeps nothing.
            x.room(1);
            twin.room(1);
            Due.due("sum of house " + number, x.sum(), 0);
            Due.due("fit of house " + number, x.fit(1), 0);
            Due.due("house " + number, Due.look(x), Due.look(twin));
        }
    }

    private static void escapeThroughTheLowestOfEqualDoors() {
        Due.sentence("escape: the goal of all is the nearest door (of equal ones the lowest)");
        for (int visitors = 1; visitors <= 4; visitors++) {
            VisitorSteps x = new VisitorSteps(5, 4, 9);
            x.door(0, 0);
            x.thing(2, 0, 1, 30);
            for (int i = 0; i < visitors; i++) {
                x.arrives(0, 0, 0);
            }
            x.run(4);
            x.door(4, 0);
            x.room(1);
            // Two steps and out; all take the same door, one behind the other, though the other one is as near.
            Due.due("of " + visitors, x.escape(), 3 + visitors - 1);
        }
    }

    private static void escapeByDifferentDoors() {
        Due.sentence("escape: the goal of all is the nearest door, how many seconds till all are out");
        VisitorSteps x = new VisitorSteps(12, 4, 9);
        x.door(0, 0);
        x.door(11, 0);
        x.thing(6, 0, 1, 30);
        x.arrives(0, 0, 0);
        x.arrives(0, 1, 0);
        x.run(4);
        Due.due("the first", x.at(0, 0), 3);
        Due.due("the second", x.at(1, 0), 8);
        Due.due("each back to the door he is near to", x.escape(), 4);
        x.run(3);
        Due.due("both at the thing", x.crowd(6, 0), 2);
        Due.due("from there five steps and out", x.escape(), 6);
        x.wall(7, 0, true);
        Due.due("round the wall the other door is nearer", x.escape(), 7);
    }

    private static void escapeBehindTheLastSecond() {
        Due.sentence("escape: on a copy (whose seconds no limit of a run ends)");
        VisitorSteps x = house(9);
        x.thing(4, 3, 1, 30);
        x.run(100);
        x.run(100);
        x.run(100);
        x.arrives(385, 0, 0);
        x.run(100);
        Due.due("the last second has gone by", x.count(0), 400);
        Due.due("he looks", x.at(0, 0) + x.at(0, 1), 7);
        Due.due("seven steps and out", x.escape(), 8);
        Due.due("no second more", x.count(0), 400);
    }

    /** Three things, interests of one's own, and what was counted; the same for the same number. */
    private static VisitorSteps toFit(int number, int[] interests) {
        Random dice = new Random(number);
        VisitorSteps x = new VisitorSteps(5, 4, dice.nextInt(65537));
        x.door(0, 0);
        for (int t = 0; t < interests.length; t++) {
            x.thing(4 - t, 1 + t, interests[t], 1 + dice.nextInt(4));
        }
        x.patience(1 + dice.nextInt(2));
        for (int i = 0; i < 16; i++) {
            x.arrives(dice.nextInt(6), 0, 0);
        }
        x.run(20 + dice.nextInt(10));
        for (int t = 0; t < interests.length; t++) {
            x.counted(t, dice.nextInt(18) - 1);
        }
        return x;
    }

    private static void fitByItsWords() {
        Due.sentence("fit: in each round, for each thing by numbers, 10 more is tried, then 10 less; it is kept, if sum() is less with it");
        int keptInAll = 0;
        for (int number = 0; number < 200; number++) {
            Random dice = new Random(1000 + number);
            int[] interests = new int[3];
            for (int t = 0; t < 3; t++) {
                interests[t] = 1 + dice.nextInt(100);
            }
            int rounds = 1 + number % 3;
            VisitorSteps x = toFit(number, interests);
            int kept = x.fit(rounds);
            Due.due("kept in house " + number, kept, fitByHand(number, interests, rounds));
            for (int t = 0; t < 3; t++) {
                Due.due("interest " + t + " of house " + number, x.interest(t), interests[t]);
            }
            Due.due("sum of house " + number, x.sum(), toFit(number, interests).sum());
            keptInAll += kept;
        }
        Due.due("these houses show something", keptInAll > 100, true);
    }

    /** Each sum is that of a new house that was told the interests which are tried. */
    private static int fitByHand(int number, int[] interests, int rounds) {
        int kept = 0;
        for (int i = 0; i < 6 * rounds; i++) {
            int t = i / 2 % 3;
            int was = interests[t];
            int least = toFit(number, interests).sum();
            interests[t] = i % 2 == 0 ? Math.min(100, was + 10) : Math.max(1, was - 10);
            if (toFit(number, interests).sum() < least) {
                kept++;
            } else {
                interests[t] = was;
            }
        }
        return kept;
    }

    private static void fitIsFollowed() {
        Due.sentence("choose things by interest: by the interests that were fitted, from then on");
        // z is 28652 for both, being of one group: modulo 40 it is 12, thing 1; modulo 50 it is 2, thing 0.
        for (int fitted = 0; fitted < 2; fitted++) {
            VisitorSteps x = house(0);
            x.thing(3, 0, 10, 1);
            x.thing(0, 3, 30, 1);
            x.patience(1);
            x.arrives(0, 0, 1);
            x.run(20);
            Due.due("the first saw thing 1", x.seen(1), 1);
            x.counted(0, 1);
            if (fitted == 1) {
                Due.due("20 is kept", x.fit(1), 1);
            }
            x.arrives(20, 0, 1);
            x.run(2);
            Due.due("the second goes to", x.about(1, 1), fitted == 1 ? 0 : 1);
        }
    }

    private static void readme() throws IOException {
        Due.sentence("README.md says how to use the class");
        VisitorSteps house = new VisitorSteps(8, 6, 40);
        int door = house.door(0, 0);
        int clock = house.thing(7, 5, 60, 10);
        int vase = house.thing(0, 5, 30, 5);
        house.wall(3, 0, true);
        house.patience(1);
        house.arrives(0, door, 0);
        house.arrives(0, door, 1);
        house.arrives(4, door, 1);

        int inside = house.run(10);
        int goal = house.about(0, 1);
        int seconds = house.escape();
        Due.due("inside", inside, 3);
        Due.due("goal", goal, vase);
        Due.due("seconds", seconds, 10);

        house.run(90);
        int byTwo = house.seen(clock);
        house.counted(clock, 1);
        house.counted(vase, 2);
        int off = house.sum();
        int kept = house.fit(2);
        int fitted = house.interest(clock);
        Due.due("byTwo", byTwo, 2);
        Due.due("off", off, 2);
        Due.due("kept", kept, 1);
        Due.due("fitted", fitted, 50);
        readmeShowsThis();
    }

    /** Each line of README.md's example stands above, so that it is compiled and run. */
    private static void readmeShowsThis() throws IOException {
        String own = Files.readString(Path.of("src/test/java/DocumentTest.java"));
        String readme = Files.readString(Path.of("README.md"));
        int start = readme.indexOf("```java");
        int end = readme.indexOf("```", start + 3);
        Due.due("README.md has an example", start >= 0 && end > start, true);
        String[] lines = readme.substring(start, end).split("\n");
        for (int i = 1; i < lines.length; i++) {
            String code = lines[i].replaceAll("//.*", "").trim();
            Due.due("README.md: " + lines[i], own.contains(code), true);
        }
    }
}
