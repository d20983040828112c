/**
 * What the tests of boundaries share: objects in some states, calls just inside a boundary with the answer that is due,
 * and calls just outside it, behind which all must be as if they had never been made.
 */
final class Bounds {
    /** Die 0 is sugar, die 1 salt, die 2 gone; three throws were made, hand 0 has heat 4, hand 1 heat 1. */
    static final Setup FULL = Bounds::full;
    static final Setup SIXTY = Bounds::sixty;
    static final Setup NEW = SugarDice::new;
    static final Setup NO_HANDS = () -> Check.laid("die 1 2 3 4 5 6;");
    static final Setup NO_DICE = () -> Check.laid("hand 1;");

    private static final long PROBE = 0x8182838485868788L;

    interface Setup {
        SugarDice make();
    }

    interface On {
        long answer(SugarDice x);
    }

    interface OnInt {
        long answer(SugarDice x, int v);
    }

    private Bounds() { }

    static Setup of(String table) {
        return () -> Check.laid(table);
    }

    /** A call that is taken: its answer, on an object of its own. */
    static void taken(String call, Setup setup, long want, On on) {
        Check.due(call, answered(call, setup.make(), on), want);
    }

    /** A call that only asks: its answer, and that nothing has changed behind it. */
    static void asked(String call, Setup setup, long want, On on) {
        SugarDice x = setup.make();
        Check.due(call, answered(call, x, on), want);
        unchanged(call, setup, x);
    }

    /** A call that throws, and that nothing has changed behind it. */
    static void refused(String call, Setup setup, Class<?> want, On on) {
        SugarDice x = setup.make();
        Check.refused(call, want, () -> on.answer(x));
        unchanged(call, setup, x);
    }

    /** Each of these values is refused, and so are the least and the greatest int. */
    static void outside(String call, Setup setup, Class<?> want, OnInt on, int... values) {
        for (int v : values) {
            refused(call + " with " + v, setup, want, x -> on.answer(x, v));
        }
        refused(call + " with the least int", setup, want, x -> on.answer(x, Integer.MIN_VALUE));
        refused(call + " with the greatest int", setup, want, x -> on.answer(x, Integer.MAX_VALUE));
    }

    private static long answered(String call, SugarDice x, On on) {
        try {
            return on.answer(x);
        } catch (RuntimeException e) {
            System.out.println(call + " threw " + e.getClass());
            return Long.MIN_VALUE;
        }
    }

    /** A twin that never saw the call must tell the same story to its end. */
    private static void unchanged(String call, Setup setup, SugarDice x) {
        Check.same("behind " + call, story(x), story(setup.make()));
    }

    /** All that can be learnt of an object, which is used up by it. */
    static String story(SugarDice x) {
        StringBuilder s = new StringBuilder(Check.state(x));
        s.append("| tape ").append(x.count(7)).append("| fault ").append(x.fault(0)).append(' ').append(x.fault(1));
        s.append("| back ").append(x.back(x.count(4))).append(Check.state(x));
        for (int tray = 0; tray < 4; tray++) {
            tellTray(x, tray, s);
        }
        for (int i = 0; i < 3; i++) {
            tellImage(x, i, s);
        }
        s.append("| table ").append(x.table(x.count(7))).append(' ').append(x.fault(1)).append(Check.state(x));
        return s.toString();
    }

    /** Its numbers by throwing them, then its places and their sort by writing. */
    private static void tellTray(SugarDice x, int tray, StringBuilder s) {
        s.append("| tray");
        try {
            s.append(x.judge(tray, 1));
        } catch (IllegalStateException e) {
            s.append(" missing");
            return;
        }
        int done = x.perform(tray);
        for (int k = x.count(4) - done; k < x.count(4); k++) {
            s.append(' ').append(x.past(k, 0)).append(x.past(k, 1)).append(x.past(k, 2));
        }
        x.back(done);
        try {
            for (int place = 0; place <= 30; place++) {
                s.append(' ').append(x.write(tray, place, PROBE));
            }
        } catch (IndexOutOfBoundsException e) {
            s.append(" end");
        }
    }

    private static void tellImage(SugarDice x, int i, StringBuilder s) {
        s.append("| image");
        try {
            x.restore(i);
            s.append(Check.state(x));
        } catch (IllegalStateException e) {
            s.append(" none");
        }
    }

    private static SugarDice full() {
        SugarDice x = Check.laid("ants 6;die 1 2 3 4 5 6;die 6 0 0 0 0 1 salt;die 0 0 1 0 0 0;hand 2;hand 0;");
        x.image(0);
        x.lot(5);
        x.shows(2, 0, 3);
        x.shows(0, 1, 6);
        x.shows(1, 0, 1);
        x.image(2);
        Check.fill(x, 0, 1, 6, 101, 15);
        Check.fill(x, 1, 0, 6, 3);
        Check.fill(x, 2, 3);
        Check.read(x, "hand 10;");
        Check.fed(x, "hand 7;");
        return x;
    }

    private static SugarDice sixty() {
        SugarDice x = Check.laid("die 6 0 0 0 0 1 salt;hand 2;");
        x.evening(1, 40);
        x.evening(2, 20);
        Check.fill(x, 0, 1, 6, 1);
        Check.fed(x, "hand 7;");
        return x;
    }
}
