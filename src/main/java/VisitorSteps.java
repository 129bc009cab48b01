import java.util.Arrays;

/** Visitors of a house by seconds; ../shared/DOC.md tells what each call answers. */
public final class VisitorSteps {

    public static final int NONE = -1;

    private static final int LEAST_SIDE = 4;
    private static final int MOST_SIDE = 12;
    private static final int MOST_SEED = 65536;
    private static final int MOST_THINGS = 6;
    private static final int MOST_DOORS = 4;
    private static final int MOST_GOALS = 10;
    private static final int MOST_VISITORS = 16;
    private static final int MOST_ROOM = 16;
    private static final int MOST_PATIENCE = 6;
    private static final int MOST_INTEREST = 100;
    private static final int MOST_STAY = 30;
    private static final int MOST_GROUP = 3;
    private static final int MOST_SECONDS = 400;
    private static final int MOST_SECONDS_A_CALL = 100;
    private static final int MOST_SECONDS_OF_ESCAPE = 200;
    private static final int MOST_COUNTED = 100;
    private static final int MOST_ROUNDS = 3;
    private static final int FIT_STEP = 10;

    /** What callers write before a door's number where a goal is told. */
    private static final int DOOR_MARK = 10;

    private static final int NOT_COME = 0;
    private static final int INSIDE = 1;
    private static final int GONE = 2;

    private static final int SIDES = 4;
    private static final int[] SIDE_X = {0, 1, 0, -1};
    private static final int[] SIDE_Y = {-1, 0, 1, 0};

    private final House house;
    private final Walk walk;
    /** Made once and used again by every call that plays something through without changing the walk. */
    private final Walk trial;
    private final int[] tally;

    public VisitorSteps(int width, int height, int seed) {
        house = new House(between(width, LEAST_SIDE, MOST_SIDE), between(height, LEAST_SIDE, MOST_SIDE),
                between(seed, 0, MOST_SEED));
        walk = new Walk(house);
        trial = new Walk(house);
        tally = new int[MOST_THINGS];
        Arrays.fill(tally, NONE);
    }

    public boolean wall(int x, int y, boolean on) throws IndexOutOfBoundsException {
        int cell = existingCell(x, y);
        if (house.wall[cell] == on) {
            return false;
        }
        if (on && (house.hasGoalIn(cell) || walk.crowd[cell] > 0)) {
            return false;
        }
        house.build(cell, on);
        return true;
    }

    public int thing(int x, int y, int interest, int stay)
            throws IndexOutOfBoundsException, IllegalArgumentException, IllegalStateException {
        int cell = existingCell(x, y);
        if (interest < 1 || interest > MOST_INTEREST || stay < 1 || stay > MOST_STAY) {
            throw new IllegalArgumentException("interest or stay");
        }
        if (house.things >= MOST_THINGS) {
            throw new IllegalStateException("there are six things");
        }
        return house.wall[cell] ? NONE : house.addThing(cell, interest, stay);
    }

    public int door(int x, int y) throws IndexOutOfBoundsException, IllegalStateException {
        int cell = existingCell(x, y);
        if (house.doors >= MOST_DOORS) {
            throw new IllegalStateException("there are four doors");
        }
        return house.wall[cell] ? NONE : house.addDoor(cell);
    }

    public int room(int visitors) throws IllegalArgumentException {
        if (visitors < 1 || visitors > MOST_ROOM) {
            throw new IllegalArgumentException("room");
        }
        int before = house.room;
        house.room = visitors;
        return before;
    }

    public int patience(int things) throws IllegalArgumentException {
        if (things < 1 || things > MOST_PATIENCE) {
            throw new IllegalArgumentException("patience");
        }
        int before = house.patience;
        house.patience = things;
        return before;
    }

    public int arrives(int second, int door, int group)
            throws IndexOutOfBoundsException, IllegalArgumentException, IllegalStateException {
        int goal = existingDoor(door);
        if (second < walk.now || second > MOST_SECONDS || group < 0 || group > MOST_GROUP) {
            throw new IllegalArgumentException("second or group");
        }
        if (walk.told >= MOST_VISITORS) {
            throw new IllegalStateException("there are sixteen visitors");
        }
        return walk.tell(second, goal, group);
    }

    public int run(int seconds) throws IllegalArgumentException {
        if (seconds < 1 || seconds > MOST_SECONDS_A_CALL || walk.now + seconds > MOST_SECONDS) {
            throw new IllegalArgumentException("seconds");
        }
        for (int i = 0; i < seconds; i++) {
            walk.passSecond();
        }
        return walk.inside;
    }

    public int at(int visitor, int axis) throws IndexOutOfBoundsException {
        Visitor one = existingVisitor(visitor);
        if (axis < 0 || axis > 1) {
            throw new IndexOutOfBoundsException("no such axis");
        }
        if (one.state != INSIDE) {
            return NONE;
        }
        return axis == 0 ? one.cell % MOST_SIDE : one.cell / MOST_SIDE;
    }

    public int about(int visitor, int what) throws IndexOutOfBoundsException {
        Visitor one = existingVisitor(visitor);
        switch (what) {
            case 0:
                return one.state;
            case 1:
                return one.goal < MOST_THINGS ? one.goal : one.goal - MOST_THINGS + DOOR_MARK;
            case 2:
                return one.seenCount;
            default:
                throw new IndexOutOfBoundsException("no such what");
        }
    }

    public int crowd(int x, int y) throws IndexOutOfBoundsException {
        return walk.crowd[existingCell(x, y)];
    }

    public int stayed(int x, int y) throws IndexOutOfBoundsException {
        return walk.stayed[existingCell(x, y)];
    }

    public int through(int door, boolean in) throws IndexOutOfBoundsException {
        int goal = existingDoor(door);
        return in ? walk.cameIn[goal] : walk.doneWith[goal];
    }

    public int seen(int thing) throws IndexOutOfBoundsException {
        return walk.doneWith[existingThing(thing)];
    }

    public int far(int x, int y, int goal) throws IndexOutOfBoundsException {
        int cell = existingCell(x, y);
        // Compared before anything is taken away, so that no goal can wrap round.
        int own = goal < DOOR_MARK ? existingThing(goal) : existingDoor(goal - DOOR_MARK);
        return house.distanceTo(own, cell);
    }

    public int escape() {
        trial.copyFrom(walk);
        trial.startFleeing();
        for (int seconds = 0; seconds <= MOST_SECONDS_OF_ESCAPE; seconds++) {
            if (trial.inside == 0) {
                return seconds;
            }
            trial.passSecond();
        }
        return NONE;
    }

    public void counted(int thing, int n) throws IndexOutOfBoundsException, IllegalArgumentException {
        int own = existingThing(thing);
        if (n < NONE || n > MOST_COUNTED) {
            throw new IllegalArgumentException("n");
        }
        tally[own] = n;
    }

    public int sum() {
        return squaresAnew();
    }

    public int fit(int rounds) throws IllegalArgumentException {
        if (rounds < 1 || rounds > MOST_ROUNDS) {
            throw new IllegalArgumentException("rounds");
        }
        int least = squaresAnew();
        int kept = 0;
        for (int round = 0; round < rounds; round++) {
            for (int thing = 0; thing < house.things; thing++) {
                // A sum of squares is never below 0, so behind 0 no change could be kept.
                for (int change = FIT_STEP; change >= -FIT_STEP && least > 0; change -= 2 * FIT_STEP) {
                    int before = house.interest[thing];
                    int tried = between(before + change, 1, MOST_INTEREST);
                    house.interest[thing] = tried;
                    int with = tried == before ? least : squaresAnew();
                    if (with < least) {
                        least = with;
                        kept++;
                    } else {
                        house.interest[thing] = before;
                    }
                }
            }
        }
        return kept;
    }

    public int interest(int thing) throws IndexOutOfBoundsException {
        return house.interest[existingThing(thing)];
    }

    public int count(int what) throws IndexOutOfBoundsException {
        switch (what) {
            case 0:
                return walk.now;
            case 1:
                return house.things;
            case 2:
                return house.doors;
            case 3:
                return walk.told;
            case 4:
                return walk.inside;
            case 5:
                return walk.dueBefore(walk.now) - walk.inside - walk.gone;
            default:
                throw new IndexOutOfBoundsException("no such what");
        }
    }

    private static int between(int value, int least, int most) {
        return Math.max(least, Math.min(most, value));
    }

    private int existingCell(int x, int y) {
        if (x < 0 || x >= house.width || y < 0 || y >= house.height) {
            throw new IndexOutOfBoundsException("no such cell");
        }
        return y * MOST_SIDE + x;
    }

    private int existingThing(int thing) {
        if (thing < 0 || thing >= house.things) {
            throw new IndexOutOfBoundsException("no such thing");
        }
        return thing;
    }

    /** The door's place among the goals, where doors stand behind all things. */
    private int existingDoor(int door) {
        if (door < 0 || door >= house.doors) {
            throw new IndexOutOfBoundsException("no such door");
        }
        return MOST_THINGS + door;
    }

    private Visitor existingVisitor(int visitor) {
        if (visitor < 0 || visitor >= walk.told) {
            throw new IndexOutOfBoundsException("no such visitor");
        }
        return walk.visitors[visitor];
    }

    private int squaresAnew() {
        trial.copyFrom(walk);
        trial.goBackToStart();
        int due = walk.dueBefore(walk.now);
        // When all who can come are gone, nothing can be seen any more.
        for (int i = 0; i < walk.now && trial.gone < due; i++) {
            trial.passSecond();
        }
        int squares = 0;
        for (int thing = 0; thing < house.things; thing++) {
            if (tally[thing] != NONE) {
                int off = trial.doneWith[thing] - tally[thing];
                squares += off * off;
            }
        }
        return squares;
    }

    /**
     * Walls, things and doors with all distances. A goal is a number 0 .. 9: things 0 .. 5, then doors.
     * A cell is y * MOST_SIDE + x in every house, so that no divisor depends on the house.
     */
    private static final class House {
        final int width;
        final int height;
        final int seed;
        final boolean[] wall;
        final int[] goalCell = new int[MOST_GOALS];
        final int[] interest = new int[MOST_THINGS];
        final int[] stay = new int[MOST_THINGS];
        int things = 0;
        int doors = 0;
        int room = MOST_ROOM;
        int patience = MOST_PATIENCE;
        private final int[][] distances;
        private final int[] queue;

        House(int width, int height, int seed) {
            this.width = width;
            this.height = height;
            this.seed = seed;
            int cells = height * MOST_SIDE;
            wall = new boolean[cells];
            distances = new int[MOST_GOALS][cells];
            queue = new int[cells];
            for (int goal = 0; goal < MOST_GOALS; goal++) {
                Arrays.fill(distances[goal], NONE);
            }
        }

        boolean isGoal(int goal) {
            return goal >= 0 && goal < things || goal >= MOST_THINGS && goal < MOST_THINGS + doors;
        }

        boolean hasGoalIn(int cell) {
            for (int goal = 0; goal < MOST_GOALS; goal++) {
                if (isGoal(goal) && goalCell[goal] == cell) {
                    return true;
                }
            }
            return false;
        }

        int distanceTo(int goal, int cell) {
            boolean known = goal >= 0 && goal < MOST_GOALS && cell >= 0 && cell < wall.length;
            return known ? distances[goal][cell] : NONE;
        }

        void build(int cell, boolean on) {
            wall[cell] = on;
            for (int goal = 0; goal < MOST_GOALS; goal++) {
                if (isGoal(goal)) {
                    measure(goal);
                }
            }
        }

        int addThing(int cell, int itsInterest, int itsStay) {
            int thing = things;
            interest[thing] = itsInterest;
            stay[thing] = itsStay;
            goalCell[thing] = cell;
            things++;
            measure(thing);
            return thing;
        }

        int addDoor(int cell) {
            int door = doors;
            goalCell[MOST_THINGS + door] = cell;
            doors++;
            measure(MOST_THINGS + door);
            return door;
        }

        /** From the goal outwards, so that each cell is reached first by a shortest way. */
        private void measure(int goal) {
            int[] distance = distances[goal];
            Arrays.fill(distance, NONE);
            distance[goalCell[goal]] = 0;
            queue[0] = goalCell[goal];
            int filled = 1;
            for (int i = 0; i < filled && i < queue.length; i++) {
                int cell = queue[i];
                for (int side = 0; side < SIDES && filled < queue.length; side++) {
                    int next = neighbour(cell, side);
                    if (next != NONE && !wall[next] && distance[next] == NONE) {
                        distance[next] = distance[cell] + 1;
                        queue[filled] = next;
                        filled++;
                    }
                }
            }
        }

        private int neighbour(int cell, int side) {
            int x = cell % MOST_SIDE + SIDE_X[side];
            int y = cell / MOST_SIDE + SIDE_Y[side];
            return x < 0 || x >= width || y < 0 || y >= height ? NONE : y * MOST_SIDE + x;
        }

        int cellOneNearer(int goal, int cell) {
            int nearer = distanceTo(goal, cell) - 1;
            for (int side = 0; side < SIDES && nearer >= 0; side++) {
                int next = neighbour(cell, side);
                if (distanceTo(goal, next) == nearer) {
                    return next;
                }
            }
            return NONE;
        }

        int nearestDoor(int cell) {
            int nearest = NONE;
            int least = Integer.MAX_VALUE;
            for (int goal = MOST_THINGS; goal < MOST_THINGS + doors; goal++) {
                int distance = distanceTo(goal, cell);
                if (distance != NONE && distance < least) {
                    nearest = goal;
                    least = distance;
                }
            }
            return nearest;
        }
    }

    /** What was told of a visitor, and how he stands. */
    private static final class Visitor {
        int second = 0;
        int door = MOST_THINGS;
        int group = 0;
        int key = 0;
        int state = NOT_COME;
        int cell = 0;
        int goal = NONE;
        int looked = 0;
        int seenBits = 0;
        int seenCount = 0;

        void copyFrom(Visitor other) {
            second = other.second;
            door = other.door;
            group = other.group;
            key = other.key;
            state = other.state;
            cell = other.cell;
            goal = other.goal;
            looked = other.looked;
            seenBits = other.seenBits;
            seenCount = other.seenCount;
        }

        void goBackToStart() {
            state = NOT_COME;
            cell = 0;
            turnTo(NONE);
            seenBits = 0;
            seenCount = 0;
        }

        void turnTo(int newGoal) {
            goal = newGoal;
            looked = 0;
        }

        boolean hasSeen(int thing) {
            return (seenBits >> thing & 1) != 0;
        }
    }

    /** All visitors in a house, and what has gone by with them. */
    private static final class Walk {
        final House house;
        final Visitor[] visitors = new Visitor[MOST_VISITORS];
        final int[] crowd;
        final int[] stayed;
        final int[] cameIn = new int[MOST_GOALS];
        /** By goals: how many have seen the thing, or went out through the door. */
        final int[] doneWith = new int[MOST_GOALS];
        int told = 0;
        int now = 0;
        int inside = 0;
        int gone = 0;
        private boolean fleeing = false;

        Walk(House house) {
            this.house = house;
            crowd = new int[house.wall.length];
            stayed = new int[house.wall.length];
            for (int i = 0; i < MOST_VISITORS; i++) {
                visitors[i] = new Visitor();
            }
        }

        int tell(int second, int door, int group) {
            Visitor one = visitors[told];
            one.second = second;
            one.door = door;
            one.group = group;
            one.key = keyOf(group);
            told++;
            return told - 1;
        }

        /** For the visitor who is told next. */
        private int keyOf(int group) {
            for (int i = 0; i < told && group != 0; i++) {
                if (visitors[i].group == group) {
                    return i;
                }
            }
            return told;
        }

        void copyFrom(Walk other) {
            for (int i = 0; i < other.told; i++) {
                visitors[i].copyFrom(other.visitors[i]);
            }
            System.arraycopy(other.crowd, 0, crowd, 0, crowd.length);
            System.arraycopy(other.stayed, 0, stayed, 0, stayed.length);
            System.arraycopy(other.cameIn, 0, cameIn, 0, MOST_GOALS);
            System.arraycopy(other.doneWith, 0, doneWith, 0, MOST_GOALS);
            told = other.told;
            now = other.now;
            inside = other.inside;
            gone = other.gone;
            fleeing = false;
        }

        void goBackToStart() {
            for (int i = 0; i < told; i++) {
                visitors[i].goBackToStart();
            }
            Arrays.fill(crowd, 0);
            Arrays.fill(stayed, 0);
            Arrays.fill(cameIn, 0);
            Arrays.fill(doneWith, 0);
            now = 0;
            inside = 0;
            gone = 0;
        }

        void startFleeing() {
            fleeing = true;
            for (int i = 0; i < told; i++) {
                visitors[i].turnTo(NONE);
            }
        }

        int dueBefore(int end) {
            int due = 0;
            for (int i = 0; i < told; i++) {
                if (visitors[i].second < end) {
                    due++;
                }
            }
            return due;
        }

        void passSecond() {
            for (int i = 0; i < told; i++) {
                Visitor one = visitors[i];
                if (one.state == INSIDE) {
                    goOn(one);
                } else if (one.state == NOT_COME && one.second <= now && !fleeing) {
                    comeIn(one);
                }
            }
            for (int i = 0; i < told; i++) {
                if (visitors[i].state == INSIDE) {
                    stayed[visitors[i].cell]++;
                }
            }
            now++;
        }

        private boolean hasRoom(int cell) {
            return cell >= 0 && cell < crowd.length && crowd[cell] < house.room;
        }

        private void comeIn(Visitor one) {
            int cell = house.goalCell[one.door];
            if (hasRoom(cell)) {
                one.state = INSIDE;
                one.cell = cell;
                crowd[cell]++;
                inside++;
                cameIn[one.door]++;
            }
        }

        private void goOn(Visitor one) {
            if (house.distanceTo(one.goal, one.cell) == NONE) {
                one.turnTo(choose(one));
            }
            if (!house.isGoal(one.goal)) {
                return;
            }
            if (house.goalCell[one.goal] != one.cell) {
                step(one);
            } else if (one.goal >= MOST_THINGS) {
                goOut(one);
            } else {
                look(one);
            }
        }

        private void step(Visitor one) {
            int next = house.cellOneNearer(one.goal, one.cell);
            if (hasRoom(next)) {
                crowd[one.cell]--;
                crowd[next]++;
                one.cell = next;
            }
        }

        private void goOut(Visitor one) {
            doneWith[one.goal]++;
            crowd[one.cell]--;
            inside--;
            gone++;
            one.state = GONE;
            one.turnTo(NONE);
        }

        private void look(Visitor one) {
            one.looked++;
            if (one.looked >= house.stay[one.goal] && groupIsDoneWith(one)) {
                doneWith[one.goal]++;
                one.seenBits |= 1 << one.goal;
                one.seenCount++;
                one.turnTo(NONE);
            }
        }

        private boolean groupIsDoneWith(Visitor one) {
            for (int i = 0; i < told && one.group != 0; i++) {
                Visitor other = visitors[i];
                if (other.group == one.group && other.state == INSIDE && !other.hasSeen(one.goal)) {
                    boolean looksToo = other.goal == one.goal && other.cell == one.cell;
                    if (!looksToo || other.looked < house.stay[one.goal]) {
                        return false;
                    }
                }
            }
            return true;
        }

        private int choose(Visitor one) {
            if (!fleeing && one.seenCount < house.patience) {
                int thing = chooseThing(one);
                if (thing != NONE) {
                    return thing;
                }
            }
            return house.nearestDoor(one.cell);
        }

        private int chooseThing(Visitor one) {
            int open = 0;
            int interests = 0;
            for (int thing = 0; thing < house.things; thing++) {
                if (!one.hasSeen(thing) && house.distanceTo(thing, one.cell) != NONE) {
                    open |= 1 << thing;
                    interests += house.interest[thing];
                }
            }
            if (interests <= 0) {
                return NONE;
            }
            int rest = luck(one) % interests;
            for (int thing = 0; thing < house.things; thing++) {
                if ((open >> thing & 1) != 0) {
                    rest -= house.interest[thing];
                    if (rest < 0) {
                        return thing;
                    }
                }
            }
            return NONE;
        }

        private int luck(Visitor one) {
            int z = (house.seed + 7919 * one.key + 101 * one.seenCount) % 65537;
            for (int i = 0; i < 3; i++) {
                z = (75 * z + 74) % 65537;
            }
            return z;
        }
    }
}
