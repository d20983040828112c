/** What the tests share: answers compared with those that are due, exceptions, and tables laid from texts. */
final class Check {
    static final Class<?> NO_SUCH = java.util.NoSuchElementException.class;
    static final Class<?> ARGUMENT = IllegalArgumentException.class;
    static final Class<?> STATE = IllegalStateException.class;
    static final Class<?> INDEX = IndexOutOfBoundsException.class;

    private static int checked = 0;
    private static int wrong = 0;

    interface Call {
        long answer();
    }

    private Check() { }

    static void due(String call, long got, long want) {
        checked++;
        if (got != want) {
            wrong++;
            System.out.println(call + " answered " + got + ", due is " + want);
        }
    }

    static void due(String call, boolean got, boolean want) {
        due(call, got ? 1 : 0, want ? 1 : 0);
    }

    static void refused(String call, Class<?> want, Call made) {
        checked++;
        Class<?> got = null;
        try {
            made.answer();
        } catch (RuntimeException e) {
            got = e.getClass();
        }
        if (got != want) {
            wrong++;
            System.out.println(call + " threw " + got + ", due is " + want);
        }
    }

    /** Feeds a text, filled up with blanks: how many bytes the tape has then. */
    static int fed(SugarDice x, String text) {
        int length = x.count(7);
        for (int from = 0; from < text.length(); from += 20) {
            int[] ints = new int[5];
            for (int i = 0; i < 20; i++) {
                int sign = from + i < text.length() ? text.charAt(from + i) : ' ';
                ints[i / 4] |= (sign & 255) << 24 - i % 4 * 8;
            }
            length = x.feed(ints[0], ints[1], ints[2], ints[3], ints[4]);
        }
        return length;
    }

    static int read(SugarDice x, String text) {
        fed(x, text);
        return x.table(text.length());
    }

    static SugarDice laid(String text) {
        SugarDice x = new SugarDice();
        int lines = read(x, text);
        if (lines < 0) {
            throw new AssertionError("the test's own table is faulty: " + text);
        }
        return x;
    }

    static void fill(SugarDice x, int tray, int sort, long... numbers) {
        x.tray(tray, sort, numbers.length);
        for (int i = 0; i < numbers.length; i++) {
            x.write(tray, i, numbers[i]);
        }
    }

    /** A text that tells all that the object holds but trays, the tape and faults. */
    static String state(SugarDice x) {
        StringBuilder s = new StringBuilder();
        for (int what = 0; what <= 6; what++) {
            s.append(x.count(what)).append(' ');
        }
        for (int d = 0; d < x.count(1); d++) {
            s.append("| die");
            for (int what = 1; what <= 10; what++) {
                s.append(' ').append(x.die(d, what));
            }
        }
        for (int h = 0; h < x.count(2); h++) {
            s.append("| hand");
            for (int what = 0; what <= 2; what++) {
                s.append(' ').append(x.hand(h, what));
            }
        }
        for (int k = 0; k < x.count(4); k++) {
            s.append("| throw ").append(x.past(k, 0)).append(x.past(k, 1)).append(x.past(k, 2));
        }
        return s.toString();
    }

    static void sameState(String when, SugarDice x, String want) {
        same(when, state(x), want);
    }

    static void same(String when, String got, String want) {
        checked++;
        if (!got.equals(want)) {
            wrong++;
            System.out.println(when + " it stands as " + got + ", due is " + want);
        }
    }

    static void end() {
        System.out.println(wrong == 0 ? checked + " answers are as due" : wrong + " of " + checked + " are not as due");
        if (wrong != 0 || checked == 0) {
            System.exit(1);
        }
    }
}
