import java.util.ArrayList;
import java.util.List;
import java.util.Random;

/**
 * Random runs of calls, answered by the class and by a slow model that was written from the document's words alone:
 * it lets distances sink till they are right, keeps what was told apart from what has gone by, and copies whole states.
 */
public final class ModelTest {
    private static final int RUNS = 2000;
    private static final int IOOBE = 1000001;
    private static final int IAE = 1000002;
    private static final int ISE = 1000003;
    private static final int OTHER = 1000004;

    private static int wrong = 0;

    public static void main(String[] args) {
        for (int run = 0; run < RUNS && wrong < 10; run++) {
            play(run);
        }
        System.out.println(wrong == 0 ? "class and model agree in " + RUNS + " runs" : wrong + " runs differ");
        if (wrong != 0) {
            System.exit(1);
        }
    }

    private static void play(int run) {
        Random dice = new Random(run);
        // Each run has a bent of its own: small or large houses, crowded or roomy, tame or wild arguments.
        int w = 2 + dice.nextInt(run % 3 == 0 ? 4 : 13);
        int h = 2 + dice.nextInt(run % 3 == 0 ? 4 : 13);
        int seed = dice.nextInt(20) == 0 ? dice.nextInt() : dice.nextInt(65537);
        int wild = run % 5 == 0 ? 5 : 60;
        int early = 5 + dice.nextInt(60);
        VisitorSteps x = new VisitorSteps(w, h, seed);
        Model m = new Model(w, h, seed);
        StringBuilder told = new StringBuilder("new(" + w + ", " + h + ", " + seed + ")");
        int calls = 60 + dice.nextInt(150);
        for (int i = 0; i < calls; i++) {
            int call = i < early ? early(dice) : dice.nextInt(21);
            if ((call == 18 || call == 17) && dice.nextInt(3) != 0) {
                call = 7;
            }
            int[] a = new int[4];
            for (int k = 0; k < 4; k++) {
                a[k] = argument(call, k, m, dice, wild);
            }
            int got = ask(x, call, a);
            int due = m.ask(call, a);
            told.append("; ").append(NAMES[call]).append(java.util.Arrays.toString(a)).append(" = ").append(due);
            if (got != due) {
                wrong++;
                System.out.println("run " + run + ": " + told + ", but the class answered " + got);
                return;
            }
            if (!allTheSame(x, m, i == calls - 1)) {
                wrong++;
                System.out.println("run " + run + ": " + told + ", and then the state differs");
                return;
            }
        }
    }

    private static final String[] NAMES = {"wall", "thing", "door", "room", "patience", "arrives", "run", "run", "at", "about",
        "crowd", "stayed", "through", "seen", "far", "escape", "counted", "sum", "fit", "interest", "count"};

    private static int early(Random dice) {
        int[] first = {0, 0, 0, 0, 0, 1, 2, 5, 5, 3, 4, 16, 6};
        return first[dice.nextInt(first.length)];
    }

    private static int argument(int call, int k, Model m, Random dice, int wild) {
        if (dice.nextInt(wild) == 0) {
            int[] odd = {-1, -2, 0, 1, 2, 3, 4, 5, 6, 7, 9, 10, 13, 14, 16, 17, 30, 31, 100, 101, 400, 401,
                Integer.MIN_VALUE, Integer.MAX_VALUE, Integer.MIN_VALUE + 9, Integer.MAX_VALUE - 400};
            return odd[dice.nextInt(odd.length)];
        }
        switch (call) {
            case 0: case 10: case 11: return k == 0 ? dice.nextInt(m.w) : k == 1 ? dice.nextInt(m.h) : dice.nextInt(5) == 0 ? 0 : 1;
            case 1: return k == 0 ? dice.nextInt(m.w) : k == 1 ? dice.nextInt(m.h) : k == 2 ? 1 + dice.nextInt(100)
                : 1 + dice.nextInt(dice.nextInt(3) == 0 ? 30 : 5);
            case 2: return k == 0 ? dice.nextInt(m.w) : dice.nextInt(m.h);
            case 3: return dice.nextInt(2) == 0 ? 1 + dice.nextInt(3) : 1 + dice.nextInt(16);
            case 4: return 1 + dice.nextInt(6);
            case 5: return k == 0 ? Math.min(400, m.now.second + dice.nextInt(30)) : k == 1 ? dice.nextInt(Math.max(1, m.doors.size())) : dice.nextInt(4);
            case 6: return 1 + dice.nextInt(4);
            case 7: return 1 + dice.nextInt(25);
            case 8: return k == 0 ? dice.nextInt(Math.max(1, m.told.size())) : dice.nextInt(2);
            case 9: return k == 0 ? dice.nextInt(Math.max(1, m.told.size())) : dice.nextInt(3);
            case 12: return k == 0 ? dice.nextInt(Math.max(1, m.doors.size())) : dice.nextInt(2);
            case 13: case 19: return dice.nextInt(Math.max(1, m.things.size()));
            case 14: return k == 0 ? dice.nextInt(m.w) : k == 1 ? dice.nextInt(m.h)
                : dice.nextBoolean() ? dice.nextInt(Math.max(1, m.things.size())) : 10 + dice.nextInt(Math.max(1, m.doors.size()));
            case 16: return k == 0 ? dice.nextInt(Math.max(1, m.things.size())) : dice.nextInt(18) - 1;
            case 18: return 1 + dice.nextInt(3);
            default: return dice.nextInt(6);
        }
    }

    private static int ask(VisitorSteps x, int call, int[] a) {
        try {
            switch (call) {
                case 0: return x.wall(a[0], a[1], a[2] > 0) ? 1 : 0;
                case 1: return x.thing(a[0], a[1], a[2], a[3]);
                case 2: return x.door(a[0], a[1]);
                case 3: return x.room(a[0]);
                case 4: return x.patience(a[0]);
                case 5: return x.arrives(a[0], a[1], a[2]);
                case 6: case 7: return x.run(a[0]);
                case 8: return x.at(a[0], a[1]);
                case 9: return x.about(a[0], a[1]);
                case 10: return x.crowd(a[0], a[1]);
                case 11: return x.stayed(a[0], a[1]);
                case 12: return x.through(a[0], a[1] > 0);
                case 13: return x.seen(a[0]);
                case 14: return x.far(a[0], a[1], a[2]);
                case 15: return x.escape();
                case 16: x.counted(a[0], a[1]); return 0;
                case 17: return x.sum();
                case 18: return x.fit(a[0]);
                case 19: return x.interest(a[0]);
                default: return x.count(a[0]);
            }
        } catch (RuntimeException e) {
            return kind(e);
        }
    }

    private static int kind(RuntimeException e) {
        Class<?> c = e.getClass();
        return c == IndexOutOfBoundsException.class ? IOOBE : c == IllegalArgumentException.class ? IAE
            : c == IllegalStateException.class ? ISE : OTHER;
    }

    private static boolean allTheSame(VisitorSteps x, Model m, boolean distancesToo) {
        for (int what = 0; what < 6; what++) {
            if (x.count(what) != m.ask(20, new int[] {what})) {
                return false;
            }
        }
        for (int v = 0; v < m.told.size(); v++) {
            Now.One one = m.now.ones.get(v);
            boolean in = one.state == 1;
            if (x.at(v, 0) != (in ? one.x : -1) || x.at(v, 1) != (in ? one.y : -1) || x.about(v, 0) != one.state
                || x.about(v, 1) != (in ? one.goal : -1) || x.about(v, 2) != one.seen.size()) {
                return false;
            }
        }
        for (int t = 0; t < m.things.size(); t++) {
            if (x.seen(t) != m.seen(m.now, t) || x.interest(t) != m.things.get(t)[2]) {
                return false;
            }
        }
        for (int d = 0; d < m.doors.size(); d++) {
            if (x.through(d, true) != m.now.in[d] || x.through(d, false) != m.now.out[d]) {
                return false;
            }
        }
        for (int cell = 0; cell < m.w * m.h && distancesToo; cell++) {
            int cx = cell % m.w;
            int cy = cell / m.w;
            if (x.stayed(cx, cy) != m.now.stayed[cx][cy] || x.crowd(cx, cy) != m.crowd(m.now, cx, cy)) {
                return false;
            }
            for (int g = 0; g < 14; g++) {
                if (ask(x, 14, new int[] {cx, cy, g}) != m.ask(14, new int[] {cx, cy, g})) {
                    return false;
                }
            }
        }
        return true;
    }

    /** What has gone by. */
    private static final class Now {
        static final class One {
            int state;
            int x;
            int y;
            int goal = -1;
            int looked;
            List<Integer> seen = new ArrayList<>();
        }

        int second;
        List<One> ones = new ArrayList<>();
        int[][] stayed = new int[12][12];
        int[] in = new int[4];
        int[] out = new int[4];

        Now copy() {
            Now n = new Now();
            n.second = second;
            for (One o : ones) {
                One c = new One();
                c.state = o.state;
                c.x = o.x;
                c.y = o.y;
                c.goal = o.goal;
                c.looked = o.looked;
                c.seen = new ArrayList<>(o.seen);
                n.ones.add(c);
            }
            for (int i = 0; i < 12; i++) {
                n.stayed[i] = stayed[i].clone();
            }
            n.in = in.clone();
            n.out = out.clone();
            return n;
        }
    }

    private static final class Model {
        final int w;
        final int h;
        final int seed;
        final boolean[][] walls = new boolean[12][12];
        final List<int[]> things = new ArrayList<>();
        final List<int[]> doors = new ArrayList<>();
        final List<int[]> told = new ArrayList<>();
        final int[][][] measured = new int[14][][];
        final int[] counted = {-1, -1, -1, -1, -1, -1};
        int room = 16;
        int patience = 6;
        Now now = new Now();

        Model(int w, int h, int seed) {
            this.w = w < 4 ? 4 : w > 12 ? 12 : w;
            this.h = h < 4 ? 4 : h > 12 ? 12 : h;
            this.seed = seed < 0 ? 0 : seed > 65536 ? 65536 : seed;
        }

        int ask(int call, int[] a) {
            boolean cell = a.length > 1 && a[0] >= 0 && a[0] < w && a[1] >= 0 && a[1] < h;
            boolean thing = a[0] >= 0 && a[0] < things.size();
            switch (call) {
                case 0: return !cell ? IOOBE : wall(a[0], a[1], a[2] > 0);
                case 1:
                    if (!cell) return IOOBE;
                    if (a[2] < 1 || a[2] > 100 || a[3] < 1 || a[3] > 30) return IAE;
                    if (things.size() == 6) return ISE;
                    if (walls[a[0]][a[1]]) return -1;
                    things.add(a.clone());
                    return things.size() - 1;
                case 2:
                    if (!cell) return IOOBE;
                    if (doors.size() == 4) return ISE;
                    if (walls[a[0]][a[1]]) return -1;
                    doors.add(a.clone());
                    return doors.size() - 1;
                case 3: {
                    if (a[0] < 1 || a[0] > 16) return IAE;
                    int was = room;
                    room = a[0];
                    return was;
                }
                case 4: {
                    if (a[0] < 1 || a[0] > 6) return IAE;
                    int was = patience;
                    patience = a[0];
                    return was;
                }
                case 5:
                    if (a[1] < 0 || a[1] >= doors.size()) return IOOBE;
                    if (a[0] < now.second || a[0] > 400 || a[2] < 0 || a[2] > 3) return IAE;
                    if (told.size() == 16) return ISE;
                    told.add(a.clone());
                    now.ones.add(new Now.One());
                    return told.size() - 1;
                case 6: case 7:
                    if (a[0] < 1 || a[0] > 100 || now.second + a[0] > 400) return IAE;
                    for (int i = 0; i < a[0]; i++) second(now, false);
                    return inside(now);
                case 8:
                    if (a[0] < 0 || a[0] >= told.size() || a[1] != 0 && a[1] != 1) return IOOBE;
                    if (now.ones.get(a[0]).state != 1) return -1;
                    return a[1] == 0 ? now.ones.get(a[0]).x : now.ones.get(a[0]).y;
                case 9:
                    if (a[0] < 0 || a[0] >= told.size() || a[1] < 0 || a[1] > 2) return IOOBE;
                    if (a[1] == 0) return now.ones.get(a[0]).state;
                    if (a[1] == 1) return now.ones.get(a[0]).state == 1 ? now.ones.get(a[0]).goal : -1;
                    return now.ones.get(a[0]).seen.size();
                case 10: return !cell ? IOOBE : crowd(now, a[0], a[1]);
                case 11: return !cell ? IOOBE : now.stayed[a[0]][a[1]];
                case 12: return a[0] < 0 || a[0] >= doors.size() ? IOOBE : a[1] > 0 ? now.in[a[0]] : now.out[a[0]];
                case 13: return !thing ? IOOBE : seen(now, a[0]);
                case 14: return !cell || place(a[2]) == null ? IOOBE : far(a[0], a[1], a[2]);
                case 15: return escape();
                case 16:
                    if (!thing) return IOOBE;
                    if (a[1] < -1 || a[1] > 100) return IAE;
                    counted[a[0]] = a[1];
                    return 0;
                case 17: return sum();
                case 18: return a[0] < 1 || a[0] > 3 ? IAE : fit(a[0]);
                case 19: return !thing ? IOOBE : things.get(a[0])[2];
                default: return count(a[0]);
            }
        }

        int wall(int x, int y, boolean on) {
            if (walls[x][y] == on) return 0;
            if (on) {
                for (int[] t : things) if (t[0] == x && t[1] == y) return 0;
                for (int[] d : doors) if (d[0] == x && d[1] == y) return 0;
                if (crowd(now, x, y) > 0) return 0;
            }
            walls[x][y] = on;
            java.util.Arrays.fill(measured, null);
            return 1;
        }

        int crowd(Now n, int x, int y) {
            int c = 0;
            for (Now.One o : n.ones) if (o.state == 1 && o.x == x && o.y == y) c++;
            return c;
        }

        int inside(Now n) {
            int c = 0;
            for (Now.One o : n.ones) if (o.state == 1) c++;
            return c;
        }

        int seen(Now n, int thing) {
            int c = 0;
            for (Now.One o : n.ones) if (o.seen.contains(thing)) c++;
            return c;
        }

        int count(int what) {
            if (what == 0) return now.second;
            if (what == 1) return things.size();
            if (what == 2) return doors.size();
            if (what == 3) return told.size();
            if (what == 4) return inside(now);
            if (what != 5) return IOOBE;
            int c = 0;
            for (int v = 0; v < told.size(); v++) if (now.ones.get(v).state == 0 && told.get(v)[0] < now.second) c++;
            return c;
        }

        int[] place(int goal) {
            if (goal >= 0 && goal < things.size()) return things.get(goal);
            if (goal >= 10 && goal < 10 + doors.size()) return doors.get(goal - 10);
            return null;
        }

        int far(int x, int y, int goal) {
            if (place(goal) == null || x < 0 || x >= w || y < 0 || y >= h) return -1;
            if (measured[goal] == null) measured[goal] = distances(place(goal));
            return measured[goal][x + 1][y + 1] >= 9999 ? -1 : measured[goal][x + 1][y + 1];
        }

        /** Distances are let sink till none sinks any more. */
        int[][] distances(int[] p) {
            int[][] d = new int[w + 2][h + 2];
            for (int[] row : d) java.util.Arrays.fill(row, 9999);
            d[p[0] + 1][p[1] + 1] = 0;
            for (boolean sunk = true; sunk;) {
                sunk = false;
                for (int i = 1; i <= w; i++) {
                    for (int j = 1; j <= h; j++) {
                        int least = 1 + Math.min(Math.min(d[i - 1][j], d[i + 1][j]), Math.min(d[i][j - 1], d[i][j + 1]));
                        if (!walls[i - 1][j - 1] && least < d[i][j]) {
                            d[i][j] = least;
                            sunk = true;
                        }
                    }
                }
            }
            return d;
        }

        void second(Now n, boolean fleeing) {
            for (int v = 0; v < n.ones.size(); v++) {
                Now.One o = n.ones.get(v);
                int[] t = told.get(v);
                if (o.state == 0 && !fleeing && t[0] <= n.second) {
                    int[] p = doors.get(t[1]);
                    if (crowd(n, p[0], p[1]) < room) {
                        o.state = 1;
                        o.x = p[0];
                        o.y = p[1];
                        n.in[t[1]]++;
                    }
                } else if (o.state == 1) {
                    acts(n, v, fleeing);
                }
            }
            for (Now.One o : n.ones) if (o.state == 1) n.stayed[o.x][o.y]++;
            n.second++;
        }

        void acts(Now n, int v, boolean fleeing) {
            Now.One o = n.ones.get(v);
            if (o.goal == -1 || far(o.x, o.y, o.goal) == -1) {
                o.goal = choice(o, v, fleeing);
                o.looked = 0;
            }
            if (o.goal == -1) return;
            int[] p = place(o.goal);
            if (o.x != p[0] || o.y != p[1]) {
                int here = far(o.x, o.y, o.goal);
                int[][] around = {{o.x, o.y - 1}, {o.x + 1, o.y}, {o.x, o.y + 1}, {o.x - 1, o.y}};
                for (int[] c : around) {
                    int there = far(c[0], c[1], o.goal);
                    if (there != -1 && there == here - 1) {
                        if (crowd(n, c[0], c[1]) < room) {
                            o.x = c[0];
                            o.y = c[1];
                        }
                        return;
                    }
                }
            } else if (o.goal >= 10) {
                n.out[o.goal - 10]++;
                o.state = 2;
            } else {
                o.looked++;
                if (o.looked >= things.get(o.goal)[3] && othersAreReady(n, v)) {
                    o.seen.add(o.goal);
                    o.goal = -1;
                }
            }
        }

        boolean othersAreReady(Now n, int v) {
            int group = told.get(v)[2];
            Now.One me = n.ones.get(v);
            int[] p = place(me.goal);
            for (int i = 0; i < n.ones.size(); i++) {
                Now.One o = n.ones.get(i);
                if (group == 0 || told.get(i)[2] != group || o.state != 1 || o.seen.contains(me.goal)) continue;
                if (o.goal != me.goal || o.x != p[0] || o.y != p[1] || o.looked < p[3]) return false;
            }
            return true;
        }

        int choice(Now.One o, int v, boolean fleeing) {
            List<Integer> open = new ArrayList<>();
            int sum = 0;
            for (int t = 0; t < things.size() && !fleeing && o.seen.size() < patience; t++) {
                if (!o.seen.contains(t) && far(o.x, o.y, t) != -1) {
                    open.add(t);
                    sum += things.get(t)[2];
                }
            }
            if (!open.isEmpty()) {
                int key = v;
                for (int i = told.size() - 1; i >= 0; i--) if (told.get(v)[2] != 0 && told.get(i)[2] == told.get(v)[2]) key = i;
                long z = (seed + 7919L * key + 101L * o.seen.size()) % 65537;
                for (int i = 0; i < 3; i++) z = (75 * z + 74) % 65537;
                z %= sum;
                int soFar = 0;
                for (int t : open) {
                    soFar += things.get(t)[2];
                    if (soFar > z) return t;
                }
            }
            int best = -1;
            for (int d = doors.size() - 1; d >= 0; d--) {
                int f = far(o.x, o.y, 10 + d);
                if (f != -1 && (best == -1 || f <= far(o.x, o.y, best))) best = 10 + d;
            }
            return best;
        }

        int escape() {
            Now n = now.copy();
            for (Now.One o : n.ones) o.goal = -1;
            int seconds = 0;
            while (inside(n) > 0) {
                if (seconds == 200) return -1;
                second(n, true);
                seconds++;
            }
            return seconds;
        }

        int sum() {
            Now n = new Now();
            for (int v = 0; v < told.size(); v++) n.ones.add(new Now.One());
            while (n.second < now.second) second(n, false);
            int sum = 0;
            for (int t = 0; t < things.size(); t++) {
                if (counted[t] != -1) sum += (seen(n, t) - counted[t]) * (seen(n, t) - counted[t]);
            }
            return sum;
        }

        int fit(int rounds) {
            int kept = 0;
            for (int r = 0; r < rounds; r++) {
                for (int[] t : things) {
                    int up = Math.min(100, t[2] + 10);
                    if (tryOut(t, up)) kept++;
                    int down = Math.max(1, t[2] - 10);
                    if (tryOut(t, down)) kept++;
                }
            }
            return kept;
        }

        boolean tryOut(int[] t, int other) {
            int was = t[2];
            if (other == was) return false;
            int without = sum();
            t[2] = other;
            if (sum() < without) return true;
            t[2] = was;
            return false;
        }
    }
}
