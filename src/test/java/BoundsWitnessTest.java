/** Boundaries of promises 43 to 46, each on both sides. */
public final class BoundsWitnessTest {
    private static final String SIX = "die 1 2 3 4 5 6;";
    private static final String ONES = "die 1 1 1 1 1 1;";
    private static final String MOST = "die 20 20 20 20 20 20;";

    private interface OfTray {
        long answer(SugarDice x, int tray);
    }

    public static void main(String[] args) {
        promise43Stopping();
        promise43LeastFace();
        promise43Refused();
        traysOfAllCalls();
        facesOfAllCalls();
        promise44Likelier();
        promise45Fits();
        promise46Worn();
        promise46RowsAndNone();
        promise46WearAndHeat();
        promise46Refused();
        Check.end();
    }

    private static Bounds.Setup told(Bounds.Setup setup, int sort, long... numbers) {
        return () -> {
            SugarDice x = setup.make();
            Check.fill(x, 0, sort, numbers);
            return x;
        };
    }

    /** "what 0: the whole number, 1: the rest" with 1 to 5 throws */
    private static void promise43Stopping() {
        int[] wholes = {3, 4, 4, 4, 5};
        int[] rests = {3, 9, 144, 1224, 1008};
        int[] faces = {1, 4, 5, 5, 5};
        for (int n = 1; n <= 5; n++) {
            int many = n;
            Bounds.asked("stopping(0, " + n + ", 0)", Bounds.of(ONES), wholes[n - 1], x -> x.stopping(0, many, 0));
            Bounds.asked("stopping(0, " + n + ", 1)", Bounds.of(ONES), rests[n - 1], x -> x.stopping(0, many, 1));
            Bounds.asked("stopping(0, " + n + ", 2)", Bounds.of(ONES), faces[n - 1], x -> x.stopping(0, many, 2));
            long ways = 3200000;
            for (int left = n; left < 5; left++) {
                ways /= 20;
            }
            Bounds.asked("20 times as heavy, " + n, Bounds.of(MOST), rests[n - 1] * ways, x -> x.stopping(0, many, 1));
            Bounds.asked("one face, " + n, Bounds.of("die 0 0 0 20 0 0;"), 4, x -> x.stopping(0, many, 0));
            Bounds.asked("one face's rest, " + n, Bounds.of("die 0 0 0 20 0 0;"), 0, x -> x.stopping(0, many, 1));
            Bounds.asked("a total of 1, " + n, Bounds.of("die 1 0 0 0 0 0;"), 1, x -> x.stopping(0, many, 0));
            Bounds.asked("a total of 1: rest, " + n, Bounds.of("die 1 0 0 0 0 0;"), 0, x -> x.stopping(0, many, 1));
        }
    }

    /** "the least face with which one stops at once (behind the first THROW; of like means one stops)" */
    private static void promise43LeastFace() {
        Bounds.asked("a mean of just 2", Bounds.of("die 2 0 2 0 0 0;"), 2, x -> x.stopping(0, 2, 2));
        Bounds.asked("a mean of more than 2", Bounds.of("die 20 0 20 1 0 0;"), 3, x -> x.stopping(0, 2, 2));
        Bounds.asked("a mean of less than 2", Bounds.of("die 20 0 19 0 0 0;"), 2, x -> x.stopping(0, 2, 2));
        Bounds.asked("a mean of 1", Bounds.of("die 1 0 0 0 0 0;"), 1, x -> x.stopping(0, 5, 2));
        Bounds.asked("a mean of 6", Bounds.of("die 0 0 0 0 0 1;"), 6, x -> x.stopping(0, 2, 2));
        Bounds.asked("a mean of nearly 6", Bounds.of("die 1 0 0 0 0 20;"), 6, x -> x.stopping(0, 5, 2));
        Bounds.asked("with the last one one must", Bounds.of("die 0 0 0 0 0 1;"), 1, x -> x.stopping(0, 1, 2));
    }

    /** "NoSuchElementException: the DIE; IllegalStateException: it is GONE; IllegalArgumentException: n isn't 1 to 5, another what" */
    private static void promise43Refused() {
        Bounds.outside("stopping(.., 1, 0)", Bounds.FULL, Check.NO_SUCH, (x, d) -> x.stopping(d, 1, 0), -1, 3, 4, 5);
        Bounds.outside("stopping(.., 0, 3)", Bounds.FULL, Check.NO_SUCH, (x, d) -> x.stopping(d, 0, 3), -1, 3);
        for (int what = 0; what <= 2; what++) {
            int asked = what;
            Bounds.refused("a gone one, " + what, Bounds.FULL, Check.STATE, x -> x.stopping(2, 1, asked));
            Bounds.outside("stopping(0, .., " + what + ")", Bounds.FULL, Check.ARGUMENT, (x, n) -> x.stopping(0, n, asked), -1, 0, 6);
            Bounds.outside("stopping(2, .., " + what + ")", Bounds.FULL, Check.STATE, (x, n) -> x.stopping(2, n, asked), -1, 0, 6);
        }
        for (int n = 1; n <= 5; n++) {
            int many = n;
            Bounds.outside("stopping(0, " + n + ", ..)", Bounds.FULL, Check.ARGUMENT, (x, what) -> x.stopping(0, many, what), -1, 3);
        }
        Bounds.outside("stopping(2, 1, ..)", Bounds.FULL, Check.STATE, (x, what) -> x.stopping(2, 1, what), -1, 3);
    }

    private static final OfTray[] CALLS = {SugarDice::likelier, SugarDice::fits, (x, t) -> x.worn(0, t, 21, -1),
        (x, t) -> x.worn(2, t, 0, 0)};

    /** "NoSuchElementException: no such TRAY; IllegalStateException: it is MISSING" */
    private static void traysOfAllCalls() {
        for (int i = 0; i < CALLS.length; i++) {
            OfTray call = CALLS[i];
            Bounds.outside("no such tray, call " + i, Bounds.FULL, Check.NO_SUCH, call::answer, -1, 4, 5);
            Bounds.refused("a missing one, call " + i, Bounds.FULL, Check.STATE, x -> call.answer(x, 3));
            Bounds.refused("no numbers, call " + i, Bounds.FULL, Check.ARGUMENT, x -> call.answer(x, 2));
            Bounds.refused("told throws, call " + i, Bounds.FULL, Check.ARGUMENT, x -> call.answer(x, 0));
        }
    }

    /** "(1 to 5 numbers, 1 to 6)"; "not 1 to 5 numbers, one is no face" */
    private static void facesOfAllCalls() {
        for (int i = 0; i < CALLS.length; i++) {
            OfTray call = CALLS[i];
            for (int many = 0; many <= 30; many++) {
                long[] faces = new long[many];
                java.util.Arrays.fill(faces, 6);
                if (many >= 1 && many <= 5) {
                    long want = call.answer(told(Bounds.FULL, 3, faces).make(), 0);
                    Bounds.asked(many + " numbers, call " + i, told(Bounds.FULL, 0, faces), want, x -> call.answer(x, 0));
                } else {
                    Bounds.refused(many + " numbers, call " + i, told(Bounds.FULL, 0, faces), Check.ARGUMENT, x -> call.answer(x, 0));
                }
            }
            for (int place = 0; place < 5; place++) {
                for (long none : new long[] {0, 7, -1, -6, 127, -128, 257, 65537, 4294967297L, Long.MAX_VALUE, Long.MIN_VALUE}) {
                    long[] faces = {1, 1, 6, 6, 6};
                    faces[place] = none;
                    Bounds.refused("no face " + none + " at " + place + ", call " + i, told(Bounds.FULL, 3, faces),
                        Check.ARGUMENT, x -> call.answer(x, 0));
                }
            }
        }
        Bounds.asked("257 is 1 of 8 bits", told(Bounds.of(SIX), 0, 257), 1, x -> x.fits(0));
        Bounds.refused("and 257 of 16", told(Bounds.of(SIX), 1, 257), Check.ARGUMENT, x -> x.fits(0));
    }

    /** "the DIE (not GONE) which .. shows them so with the greatest odds, the first"; "NONE: no DIE can" */
    private static void promise44Likelier() {
        Bounds.asked("of no dice", told(Bounds.NEW, 0, 6), -1, x -> x.likelier(0));
        Bounds.asked("of one that can", told(Bounds.of("die 1 0 0 0 0 0;"), 0, 1), 0, x -> x.likelier(0));
        Bounds.asked("of one that can't", told(Bounds.of("die 1 0 0 0 0 0;"), 0, 2), -1, x -> x.likelier(0));
        Bounds.asked("one of five can't", told(Bounds.of("die 1 0 0 0 0 0;"), 0, 1, 1, 1, 1, 2), -1, x -> x.likelier(0));
        Bounds.asked("of like odds the first", told(Bounds.of("die 1 1 0 0 0 0;die 7 7 0 0 0 0;"), 0, 1), 0, x -> x.likelier(0));
        Bounds.asked("a little more", told(Bounds.of("die 7 7 0 0 0 0;die 8 7 0 0 0 0;"), 0, 1), 1, x -> x.likelier(0));
        Bounds.asked("not a gone one", told(Bounds.FULL, 0, 3), 0, x -> x.likelier(0));
        Bounds.asked("salt", told(Bounds.FULL, 0, 1, 1, 1, 1, 1), 1, x -> x.likelier(0));
        Bounds.asked("the last of five", told(Bounds.of("die 1 1 0 0 0 0;".repeat(4) + "die 2 1 0 0 0 0;"), 0, 1), 4,
            x -> x.likelier(0));
        Bounds.asked("greater odds of a greater total", told(Bounds.of("die 19 20 20 20 20 20;" + MOST), 0, 1, 1, 1, 1, 1), 1,
            x -> x.likelier(0));
        Bounds.asked("as often as they are, in order or not", told(Bounds.of("die 2 1 0 0 0 0;die 1 2 0 0 0 0;"), 0, 2, 1, 2), 1,
            x -> x.likelier(0));
    }

    /** "How many rows of DICE .. could show these faces (each has some WEIGHT there)." */
    private static void promise45Fits() {
        Bounds.asked("of no dice", told(Bounds.NEW, 0, 6), 0, x -> x.fits(0));
        Bounds.asked("one number, one die", told(Bounds.of(SIX), 0, 6), 1, x -> x.fits(0));
        Bounds.asked("five numbers, five dice", told(Bounds.of(SIX.repeat(5)), 0, 1, 2, 3, 4, 6), 3125, x -> x.fits(0));
        Bounds.asked("none at one number", told(Bounds.of("die 1 0 0 0 0 0;".repeat(5)), 0, 1, 1, 1, 1, 2), 0, x -> x.fits(0));
        Bounds.asked("without the gone one", told(Bounds.FULL, 0, 3), 1, x -> x.fits(0));
        Bounds.asked("two of three", told(Bounds.FULL, 0, 6, 1), 4, x -> x.fits(0));
        SugarDice x = told(Bounds.of("die 0 0 0 0 0 2;" + SIX), 0, 6).make();
        Check.due("weights of 2 and 6", x.fits(0), 2);
        x.rain(1);
        Check.due("weights of 1 and 5", x.fits(0), 2);
        x.rain(1);
        Check.due("weights of 0 and 4", x.fits(0), 1);
    }

    /** "k NONE: how many rows, else the k-th; NONE: not so many" */
    private static void promise46Worn() {
        int[] totals = {14, 16, 17, 18};
        int[] rows = {0, 1, 4, 5};
        for (int i = 0; i < 4; i++) {
            int total = totals[i];
            Bounds.asked("rows of " + total, Bounds.FULL, 1, x -> x.worn(0, 1, total, -1));
            Bounds.asked("the first of " + total, Bounds.FULL, rows[i], x -> x.worn(0, 1, total, 0));
            for (int k : new int[] {1, 2, -2, Integer.MIN_VALUE, Integer.MAX_VALUE}) {
                Bounds.asked("the " + k + "-th of " + total, Bounds.FULL, -1, x -> x.worn(0, 1, total, k));
            }
        }
        for (int total : new int[] {-1, -2, 0, 13, 15, 19, 21, 120, Integer.MIN_VALUE, Integer.MAX_VALUE}) {
            Bounds.asked("rows of " + total, Bounds.FULL, 0, x -> x.worn(0, 1, total, -1));
            Bounds.asked("the first of " + total, Bounds.FULL, -1, x -> x.worn(0, 1, total, 0));
        }
        Bounds.Setup all = told(Bounds.of("die 1 1 1 1 1 1 salt;" + "hand 9;".repeat(4)), 0, 1, 2, 3, 4, 6);
        Bounds.asked("all rows", all, 1024, x -> x.worn(0, 0, 6, -1));
        Bounds.asked("the first row", all, 0, x -> x.worn(0, 0, 6, 0));
        Bounds.asked("the last row", all, 1023, x -> x.worn(0, 0, 6, 1023));
        Bounds.asked("one more", all, -1, x -> x.worn(0, 0, 6, 1024));
        Bounds.Setup three = told(Bounds.of("die 1 1 1 1 1 1 salt;" + "hand 9;".repeat(3)), 0, 1, 2, 3, 4, 6);
        Bounds.asked("rows of three hands", three, 243, x -> x.worn(0, 0, 6, -1));
        Bounds.asked("behind 0 0 0 0 2 comes 0 0 0 1 0", three, 4, x -> x.worn(0, 0, 6, 3));
        Bounds.asked("the last of three hands", three, 2 * (256 + 64 + 16 + 4 + 1), x -> x.worn(0, 0, 6, 242));
        Bounds.asked("one more of three hands", three, -1, x -> x.worn(0, 0, 6, 243));
    }

    /** Nobody's rows: no hands, a gone die, a face without weight; and with 60 throws some. */
    private static void promise46RowsAndNone() {
        Bounds.asked("no hands", told(Bounds.NO_HANDS, 0, 6), 0, x -> x.worn(0, 0, 21, -1));
        Bounds.asked("no hands, the first", told(Bounds.NO_HANDS, 0, 6), -1, x -> x.worn(0, 0, 21, 0));
        Bounds.asked("a gone one", Bounds.FULL, 0, x -> x.worn(2, 1, 0, -1));
        Bounds.asked("a gone one, the first", Bounds.FULL, -1, x -> x.worn(2, 1, 0, 0));
        Bounds.asked("a face without weight", Bounds.FULL, 0, x -> x.worn(1, 1, 7, -1));
        for (int k : new int[] {-1, 0}) {
            int none = k == -1 ? 0 : -1;
            Bounds.asked("no hands, a total of -1", told(Bounds.NO_HANDS, 0, 6), none, x -> x.worn(0, 0, -1, k));
            Bounds.asked("a gone one, a total of -1", Bounds.FULL, none, x -> x.worn(2, 1, -1, k));
            Bounds.asked("a face without weight, a total of -1", Bounds.FULL, none, x -> x.worn(1, 1, -1, k));
        }
        Bounds.asked("salt", told(Bounds.FULL, 0, 6, 1), 4, x -> x.worn(1, 0, 7, -1));
        Bounds.asked("salt's other totals", told(Bounds.FULL, 0, 6, 1), 0, x -> x.worn(1, 0, 6, -1));
        Bounds.asked("with 60 throws", Bounds.SIXTY, 1, x -> x.worn(0, 0, 7, -1));
    }

    /** "(each face has some WEIGHT then; HEATS grow)": not below 0, 9 at most. */
    private static void promise46WearAndHeat() {
        Bounds.Setup last = told(Bounds.of("die 3 0 0 0 0 0;hand 1;hand 2;"), 0, 1, 1);
        Bounds.asked("worn to nothing", last, 4, x -> x.worn(0, 0, 0, -1));
        Bounds.asked("by 0, 0", last, 0, x -> x.worn(0, 0, 0, 0));
        Bounds.asked("by 0, 1", last, 1, x -> x.worn(0, 0, 0, 1));
        Bounds.asked("by 1, 0", last, 4, x -> x.worn(0, 0, 0, 2));
        Bounds.asked("by 1, 1: not below 0", last, 5, x -> x.worn(0, 0, 0, 3));
        Bounds.asked("no more", last, -1, x -> x.worn(0, 0, 0, 4));
        Bounds.Setup away = told(Bounds.of("die 2 0 0 0 0 5;hand 1;hand 2;"), 0, 1, 1);
        Bounds.asked("no weight then by 1, 0 and 1, 1", away, 2, x -> x.worn(0, 0, 5, -1));
        Bounds.Setup hot = told(Bounds.of("die 20 20 0 0 0 0;hand 8;"), 0, 1, 2, 1);
        Bounds.asked("8, 9, 9", hot, 1, x -> x.worn(0, 0, 40 - 26, -1));
        Bounds.asked("not 8, 9, 10", hot, 0, x -> x.worn(0, 0, 40 - 27, -1));
        Bounds.asked("heats are left as they are", hot, 8, x -> {
            x.worn(0, 0, 14, -1);
            return x.hand(0, 0);
        });
    }

    /** "NoSuchElementException: the DIE, TRAY; IllegalStateException: it is MISSING; IllegalArgumentException: .." */
    private static void promise46Refused() {
        for (int tray = -1; tray <= 4; tray++) {
            int any = tray;
            Bounds.outside("worn(.., " + tray + ")", Bounds.FULL, Check.NO_SUCH, (x, d) -> x.worn(d, any, 21, -1), -1, 3, 4, 5);
        }
        for (int d = 0; d < 3; d++) {
            int die = d;
            Bounds.outside("worn(" + d + ", ..)", Bounds.FULL, Check.NO_SUCH, (x, tray) -> x.worn(die, tray, 21, 0), -1, 4);
            Bounds.refused("worn(" + d + ", 3) of a missing one", Bounds.FULL, Check.STATE, x -> x.worn(die, 3, 21, 0));
            Bounds.refused("worn(" + d + ", 2) of no numbers", Bounds.FULL, Check.ARGUMENT, x -> x.worn(die, 2, 21, 0));
        }
    }
}
