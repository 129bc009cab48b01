/** What the tests by sentences share: saying which sentence is broken, and seeing that a call changed nothing. */
final class Due {
    static final int NONE = -1;
    static final int LOW = Integer.MIN_VALUE;
    static final int HIGH = Integer.MAX_VALUE;
    static final Class<?> INDEX = IndexOutOfBoundsException.class;
    static final Class<?> ARGUMENT = IllegalArgumentException.class;
    static final Class<?> STATE = IllegalStateException.class;

    private static final int MOST_SECONDS = 400;
    /** How long twins are watched: a change that cannot be asked for shows in what they do later. */
    private static final int[] LATER = {0, 1, 2, 5, 20};

    private static int wrong = 0;
    private static int asked = 0;
    private static String sentence = "";

    interface House {
        VisitorSteps make();
    }

    interface Call {
        void go(VisitorSteps x);
    }

    interface Question {
        long ask(VisitorSteps x);
    }

    private Due() {
    }

    /** The sentence of the document that the next questions are about. */
    static void sentence(String text) {
        sentence = text;
    }

    static void due(String what, long got, long want) {
        asked++;
        if (got != want) {
            fault(what + " answered " + got + ", due is " + want);
        }
    }

    static void due(String what, boolean got, boolean want) {
        due(what, got ? 1 : 0, want ? 1 : 0);
    }

    static void due(String what, String got, String want) {
        asked++;
        if (!got.equals(want)) {
            fault(what + " is\n  " + got + "\n  due is\n  " + want);
        }
    }

    private static void fault(String text) {
        wrong++;
        System.out.println("\"" + sentence + "\": " + text);
    }

    static void refused(String what, Class<?> kind, VisitorSteps x, Call call) {
        asked++;
        Class<?> thrown = null;
        try {
            call.go(x);
        } catch (RuntimeException e) {
            thrown = e.getClass();
        }
        if (thrown != kind) {
            fault(what + " threw " + thrown + ", due is " + kind);
        }
    }

    /** The call is refused, and the house goes on like a twin in which it was never made. */
    static void refusedAndNothingChanges(String what, Class<?> kind, House house, Call call) {
        changesNothing(what, house, x -> refused(what, kind, x, call));
    }

    /** The call is answered, and the house goes on like a twin in which it was never made. */
    static void answeredAndNothingChanges(String what, long want, House house, Question question) {
        changesNothing(what, house, x -> due(what, question.ask(x), want));
    }

    private static void changesNothing(String what, House house, Call call) {
        for (int later : LATER) {
            VisitorSteps x = house.make();
            VisitorSteps twin = house.make();
            if (twin.count(0) + later > MOST_SECONDS) {
                return;
            }
            call.go(x);
            if (later > 0) {
                due(what + ": inside " + later + " later", x.run(later), twin.run(later));
            }
            due(what + ": the house " + later + " seconds later", look(x), look(twin));
        }
    }

    /** All that can be asked of a house of up to 20 cells, within the 512 calls of an object; interests change last. */
    static String look(VisitorSteps x) {
        StringBuilder s = new StringBuilder();
        for (int what = 0; what < 6; what++) {
            s.append(x.count(what)).append(' ');
        }
        for (int v = 0; v < x.count(3); v++) {
            s.append("visitor ").append(x.at(v, 0)).append(' ').append(x.at(v, 1)).append(' ');
            s.append(x.about(v, 0)).append(' ').append(x.about(v, 1)).append(' ').append(x.about(v, 2)).append(' ');
        }
        for (int t = 0; t < x.count(1); t++) {
            s.append("thing ").append(x.seen(t)).append(' ').append(x.interest(t)).append(' ');
        }
        for (int d = 0; d < x.count(2); d++) {
            s.append("door ").append(x.through(d, true)).append(' ').append(x.through(d, false)).append(' ');
        }
        lookAtCells(x, s);
        int room = x.room(1);
        x.room(room);
        int patience = x.patience(1);
        x.patience(patience);
        s.append("room ").append(room).append(" patience ").append(patience);
        s.append(" escape ").append(x.escape()).append(" sum ").append(x.sum()).append(" fit ").append(x.fit(1));
        for (int t = 0; t < x.count(1); t++) {
            s.append(' ').append(x.interest(t));
        }
        return s.toString();
    }

    private static void lookAtCells(VisitorSteps x, StringBuilder s) {
        int things = x.count(1);
        int doors = x.count(2);
        for (int row = 0; row < 4; row++) {
            for (int column = 0; column < 5; column++) {
                s.append("cell ").append(x.crowd(column, row)).append(' ').append(x.stayed(column, row)).append(' ');
                for (int t = 0; t < things; t++) {
                    s.append(x.far(column, row, t)).append(' ');
                }
                for (int d = 0; d < doors; d++) {
                    s.append(x.far(column, row, 10 + d)).append(' ');
                }
            }
        }
    }

    static void end() {
        System.out.println(wrong == 0 ? "all " + asked + " answers are as due" : wrong + " answers are not as due");
        if (wrong != 0) {
            System.exit(1);
        }
    }
}
