/** Boundaries of promises 22 to 35, each on both sides. */
public final class BoundsOddsTest {
    private static final String SIX = "die 1 2 3 4 5 6;";
    private static final String MOST = "die 20 20 20 20 20 20;";
    private static final int[] FAR = {Integer.MIN_VALUE, Integer.MIN_VALUE + 1, Integer.MAX_VALUE - 1, Integer.MAX_VALUE};

    private interface OfSet {
        long answer(SugarDice x, int set);
    }

    public static void main(String[] args) {
        setsOfAllCalls();
        setsAndWhatOfMean();
        promise22Whole();
        promise23Sum();
        promise24Least();
        promise25Alike();
        promise26Mode();
        promise27Sums();
        promise28Mean();
        promise29BestSet();
        promise29NotSoMany();
        promise30Unlike();
        promise31Run();
        promise32Cannot();
        promise33Once();
        promise34AllFaces();
        promise35Coins();
        promise35Refused();
        Check.end();
    }

    /** "IllegalArgumentException: a SET with others (as below); IllegalStateException: one is GONE (as below)" */
    private static void setsOfAllCalls() {
        OfSet[] calls = {SugarDice::whole, (x, s) -> x.sum(s, 7), (x, s) -> x.sum(s, -1), (x, s) -> x.least(s, 7),
            (x, s) -> x.least(s, 99), SugarDice::alike, SugarDice::mode, SugarDice::sums, (x, s) -> x.mean(s, 0),
            (x, s) -> x.mean(s, 1), SugarDice::unlike, SugarDice::run};
        Bounds.Setup five = Bounds.of(SIX.repeat(5));
        for (int i = 0; i < calls.length; i++) {
            OfSet call = calls[i];
            String of = " of odds' call " + i;
            Bounds.outside("a set with others" + of, Bounds.FULL, Check.ARGUMENT, call::answer, -1, 8, 9, 12, 16, 1 << 30);
            Bounds.outside("a set of a sixth" + of, five, Check.ARGUMENT, call::answer, -1, 32, 33, 63, 64);
            Bounds.outside("a set of a new one" + of, Bounds.NEW, Check.ARGUMENT, call::answer, -1, 1, 2);
            for (int set = 4; set <= 7; set++) {
                int gone = set;
                Bounds.refused("a set with a gone one, " + set + of, Bounds.FULL, Check.STATE, x -> call.answer(x, gone));
            }
            for (int set = 0; set <= 3; set++) {
                int taken = set;
                long want = call.answer(Check.laid("ants 6;die 1 2 3 4 5 6;die 6 0 0 0 0 1 salt;"), set);
                Bounds.asked("set " + set + " beside a gone one" + of, Bounds.FULL, want, x -> call.answer(x, taken));
            }
            Bounds.asked("the set of all five" + of, five, call.answer(five.make(), 31), x -> call.answer(x, 31));
        }
    }

    /** "IllegalArgumentException: also another what": told ahead of a gone one. */
    private static void setsAndWhatOfMean() {
        for (int set : new int[] {0, 1, 3, 4, 7, 8, -1}) {
            Bounds.outside("mean(" + set + ", ..)", Bounds.FULL, Check.ARGUMENT, (x, what) -> x.mean(set, what), -1, 2);
        }
        Bounds.outside("mean(0, ..) of a new one", Bounds.NEW, Check.ARGUMENT, (x, what) -> x.mean(0, what), -1, 2);
    }

    /** "all TOTALS multiplied (1 of no DICE)" */
    private static void promise22Whole() {
        Bounds.asked("whole of no dice", Bounds.NEW, 1, x -> x.whole(0));
        Bounds.asked("whole of no dice of three", Bounds.FULL, 1, x -> x.whole(0));
        Bounds.asked("whole of one", Bounds.FULL, 21, x -> x.whole(1));
        Bounds.asked("whole of two", Bounds.FULL, 147, x -> x.whole(3));
        Bounds.asked("whole of the least", Bounds.of("die 0 0 1 0 0 0;".repeat(5)), 1, x -> x.whole(31));
        Bounds.asked("whole of the most", Bounds.of(MOST.repeat(5)), 24883200000L, x -> x.whole(31));
        SugarDice x = Check.laid("die 0 0 0 0 1 1;hand 1;");
        x.shows(0, 0, 5);
        Check.due("a total of 1", x.whole(1), 1);
        x.shows(0, 0, 6);
        Check.refused("a total of 0", Check.STATE, () -> x.whole(1));
        Check.due("without it", x.whole(0), 1);
    }

    /** "WAYS in which the faces of a SET are just so much together" */
    private static void promise23Sum() {
        Bounds.asked("sum(0, 0)", Bounds.NEW, 1, x -> x.sum(0, 0));
        Bounds.asked("sum(0, 1)", Bounds.NEW, 0, x -> x.sum(0, 1));
        Bounds.asked("sum(0, -1)", Bounds.NEW, 0, x -> x.sum(0, -1));
        Bounds.asked("sum(1, 0)", Bounds.FULL, 0, x -> x.sum(1, 0));
        Bounds.asked("sum(1, 1)", Bounds.FULL, 1, x -> x.sum(1, 1));
        Bounds.asked("sum(1, 6)", Bounds.FULL, 6, x -> x.sum(1, 6));
        Bounds.asked("sum(1, 7)", Bounds.FULL, 0, x -> x.sum(1, 7));
        Bounds.asked("sum(3, 1)", Bounds.FULL, 0, x -> x.sum(3, 1));
        Bounds.asked("sum(3, 2)", Bounds.FULL, 6, x -> x.sum(3, 2));
        Bounds.asked("sum(3, 7)", Bounds.FULL, 36 + 1, x -> x.sum(3, 7));
        Bounds.asked("sum(3, 12)", Bounds.FULL, 6, x -> x.sum(3, 12));
        Bounds.asked("sum(3, 13)", Bounds.FULL, 0, x -> x.sum(3, 13));
        Bounds.Setup five = Bounds.of(SIX.repeat(5));
        Bounds.asked("sum(31, 4)", five, 0, x -> x.sum(31, 4));
        Bounds.asked("sum(31, 5)", five, 1, x -> x.sum(31, 5));
        Bounds.asked("sum(31, 6)", five, 10, x -> x.sum(31, 6));
        Bounds.asked("sum(31, 29)", five, 5 * 5 * 1296, x -> x.sum(31, 29));
        Bounds.asked("sum(31, 30)", five, 7776, x -> x.sum(31, 30));
        Bounds.asked("sum(31, 31)", five, 0, x -> x.sum(31, 31));
        Bounds.asked("sum(31, 32)", five, 0, x -> x.sum(31, 32));
        for (int far : FAR) {
            Bounds.asked("sum(31, " + far + ")", five, 0, x -> x.sum(31, far));
            Bounds.asked("sum(0, " + far + ")", five, 0, x -> x.sum(0, far));
        }
    }

    /** "WAYS in which they are so much together or more" */
    private static void promise24Least() {
        Bounds.asked("least(0, -1)", Bounds.NEW, 1, x -> x.least(0, -1));
        Bounds.asked("least(0, 0)", Bounds.NEW, 1, x -> x.least(0, 0));
        Bounds.asked("least(0, 1)", Bounds.NEW, 0, x -> x.least(0, 1));
        Bounds.asked("least(1, 0)", Bounds.FULL, 21, x -> x.least(1, 0));
        Bounds.asked("least(1, 1)", Bounds.FULL, 21, x -> x.least(1, 1));
        Bounds.asked("least(1, 2)", Bounds.FULL, 20, x -> x.least(1, 2));
        Bounds.asked("least(1, 6)", Bounds.FULL, 6, x -> x.least(1, 6));
        Bounds.asked("least(1, 7)", Bounds.FULL, 0, x -> x.least(1, 7));
        Bounds.asked("least(3, 2)", Bounds.FULL, 147, x -> x.least(3, 2));
        Bounds.asked("least(3, 3)", Bounds.FULL, 141, x -> x.least(3, 3));
        Bounds.asked("least(3, 12)", Bounds.FULL, 6, x -> x.least(3, 12));
        Bounds.asked("least(3, 13)", Bounds.FULL, 0, x -> x.least(3, 13));
        Bounds.Setup five = Bounds.of(SIX.repeat(5));
        Bounds.asked("least(31, 5)", five, 4084101, x -> x.least(31, 5));
        Bounds.asked("least(31, 6)", five, 4084100, x -> x.least(31, 6));
        Bounds.asked("least(31, 30)", five, 7776, x -> x.least(31, 30));
        Bounds.asked("least(31, 31)", five, 0, x -> x.least(31, 31));
        for (int far : FAR) {
            Bounds.asked("least(31, " + far + ")", five, far < 0 ? 4084101 : 0, x -> x.least(31, far));
            Bounds.asked("least(0, " + far + ")", five, far < 0 ? 1 : 0, x -> x.least(0, far));
        }
    }

    /** "WAYS in which all show one face (of no DICE: 1)" */
    private static void promise25Alike() {
        Bounds.asked("alike(0) of a new one", Bounds.NEW, 1, x -> x.alike(0));
        Bounds.asked("alike(0)", Bounds.FULL, 1, x -> x.alike(0));
        Bounds.asked("alike(1): one die always", Bounds.FULL, 21, x -> x.alike(1));
        Bounds.asked("alike(3)", Bounds.FULL, 6 + 6, x -> x.alike(3));
        Bounds.asked("no face in common", Bounds.of("die 1 0 1 0 1 0;die 0 1 0 1 0 1;"), 0, x -> x.alike(3));
        Bounds.asked("one face in common", Bounds.of("die 1 0 1 0 1 0;die 0 1 0 1 7 1;"), 7, x -> x.alike(3));
        Bounds.asked("five of one face", Bounds.of("die 0 0 0 0 0 1;".repeat(5)), 1, x -> x.alike(31));
        Bounds.asked("five of the most", Bounds.of(MOST.repeat(5)), 19200000, x -> x.alike(31));
    }

    /** "The likeliest sum, the least." */
    private static void promise26Mode() {
        Bounds.asked("mode(0)", Bounds.NEW, 0, x -> x.mode(0));
        Bounds.asked("mode(1)", Bounds.FULL, 6, x -> x.mode(1));
        Bounds.asked("mode(2)", Bounds.FULL, 1, x -> x.mode(2));
        Bounds.asked("all alike: the least", Bounds.of("die 1 1 1 1 1 1;"), 1, x -> x.mode(1));
        Bounds.asked("two alike: the lesser", Bounds.of("die 0 3 1 0 3 0;"), 2, x -> x.mode(1));
        Bounds.asked("one more: that one", Bounds.of("die 0 3 1 0 4 0;"), 5, x -> x.mode(1));
        Bounds.asked("17 and 18 alike", Bounds.of("die 1 1 1 1 1 1;".repeat(5)), 17, x -> x.mode(31));
        Bounds.asked("the greatest of all", Bounds.of("die 0 0 0 0 0 1;".repeat(5)), 30, x -> x.mode(31));
        Bounds.asked("the least of five", Bounds.of("die 1 0 0 0 0 0;".repeat(5)), 5, x -> x.mode(31));
    }

    /** "Sums that can be, as bits." */
    private static void promise27Sums() {
        Bounds.asked("sums(0)", Bounds.NEW, 1, x -> x.sums(0));
        Bounds.asked("sums(1)", Bounds.FULL, 126, x -> x.sums(1));
        Bounds.asked("sums(2)", Bounds.FULL, 66, x -> x.sums(2));
        Bounds.asked("sums(3)", Bounds.FULL, 126 << 1 | 126 << 6, x -> x.sums(3));
        Bounds.asked("the lowest bit of five", Bounds.of("die 1 0 0 0 0 0;".repeat(5)), 32, x -> x.sums(31));
        Bounds.asked("the highest bit of five", Bounds.of("die 0 0 0 0 0 1;".repeat(5)), 1 << 30, x -> x.sums(31));
        Bounds.asked("all of five", Bounds.of(MOST.repeat(5)), 0x7fffffe0, x -> x.sums(31));
        SugarDice x = Check.laid("die 1 0 0 0 0 2;hand 1;");
        x.shows(0, 0, 6);
        Check.due("a weight of 1 can be", x.sums(1), 66);
        x.shows(0, 0, 6);
        Check.due("a weight of 0 can't", x.sums(1), 2);
    }

    /** "the whole number (what 0), the rest in WAYS of WHOLE (1)" */
    private static void promise28Mean() {
        Bounds.asked("mean(0, 0)", Bounds.NEW, 0, x -> x.mean(0, 0));
        Bounds.asked("mean(0, 1)", Bounds.NEW, 0, x -> x.mean(0, 1));
        Bounds.asked("mean(1, 0)", Bounds.FULL, 4, x -> x.mean(1, 0));
        Bounds.asked("mean(1, 1)", Bounds.FULL, 91 - 84, x -> x.mean(1, 1));
        Bounds.asked("no rest", Bounds.of("die 1 1 1 0 0 0;"), 0, x -> x.mean(1, 1));
        Bounds.asked("no rest: the whole number", Bounds.of("die 1 1 1 0 0 0;"), 2, x -> x.mean(1, 0));
        Bounds.asked("the greatest rest", Bounds.of("die 1 19 0 0 0 0;"), 19, x -> x.mean(1, 1));
        Bounds.asked("the greatest rest: the whole number", Bounds.of("die 1 19 0 0 0 0;"), 1, x -> x.mean(1, 0));
        Bounds.asked("the greatest mean", Bounds.of("die 0 0 0 0 0 20;".repeat(5)), 30, x -> x.mean(31, 0));
        Bounds.asked("its rest", Bounds.of("die 0 0 0 0 0 20;".repeat(5)), 0, x -> x.mean(31, 1));
        Bounds.asked("five of the most", Bounds.of(MOST.repeat(5)), 17, x -> x.mean(31, 0));
        Bounds.asked("its rest, the half", Bounds.of(MOST.repeat(5)), 12441600000L, x -> x.mean(31, 1));
    }

    /** "the greatest odds, the least such SET"; "IllegalArgumentException: n isn't 1 to 3" */
    private static void promise29BestSet() {
        Bounds.outside("bestSet(.., 1)", Bounds.FULL, Check.ARGUMENT, (x, n) -> x.bestSet(n, 1), -1, 0, 4, 5);
        Bounds.outside("bestSet(.., 1) of a new one", Bounds.NEW, Check.ARGUMENT, (x, n) -> x.bestSet(n, 1), 0, 4);
        Bounds.Setup five = Bounds.of("die 0 0 0 1 1 0;die 0 0 0 2 2 0;die 0 0 0 0 1 1;die 0 0 0 0 1 0;die 1 0 0 0 0 0;");
        Bounds.asked("the greatest odds", five, 4, x -> x.bestSet(1, 6));
        Bounds.asked("the first of like odds", five, 4, x -> x.bestSet(1, 5));
        Bounds.asked("all of them can", five, 1, x -> x.bestSet(1, 1));
        Bounds.asked("all but one can", five, 1, x -> x.bestSet(1, 4));
        Bounds.asked("none can", five, 1, x -> x.bestSet(1, 7));
        Bounds.asked("two", five, 12, x -> x.bestSet(2, 10));
        Bounds.asked("two: none can", five, 3, x -> x.bestSet(2, 13));
        Bounds.asked("three", five, 13, x -> x.bestSet(3, 15));
        Bounds.asked("three: none can", five, 7, x -> x.bestSet(3, 19));
        for (int n = 1; n <= 3; n++) {
            int many = n;
            for (int far : FAR) {
                Bounds.asked("bestSet(" + n + ", " + far + ")", five, (1 << n) - 1, x -> x.bestSet(many, far));
            }
        }
        Bounds.asked("like odds of unlike totals", Bounds.of("die 0 0 0 0 7 7;die 0 0 0 0 2 2;"), 1, x -> x.bestSet(1, 6));
        Bounds.asked("a little less", Bounds.of("die 0 0 0 0 8 7;die 0 0 0 0 2 2;"), 2, x -> x.bestSet(1, 6));
    }

    /** "(none GONE)"; "NONE: there are not so many" */
    private static void promise29NotSoMany() {
        for (int n = 1; n <= 3; n++) {
            int many = n;
            Bounds.asked("bestSet(" + n + ") of none", Bounds.NEW, -1, x -> x.bestSet(many, 1));
            Bounds.asked("of one less", Bounds.of(SIX.repeat(n - 1) + "hand 1;"), -1, x -> x.bestSet(many, 1));
            Bounds.asked("of just so many", Bounds.of(SIX.repeat(n)), (1 << n) - 1, x -> x.bestSet(many, 1));
            Bounds.asked("of two and a gone one", Bounds.FULL, n == 1 ? 1 : n == 2 ? 3 : -1, x -> x.bestSet(many, 1));
        }
        Bounds.Setup first = () -> {
            SugarDice x = Check.laid("die 0 0 0 0 0 1;" + SIX + SIX + "die 0 0 0 0 0 1;" + SIX);
            x.rain(1);
            return x;
        };
        Bounds.asked("without gone ones: one", first, 2, x -> x.bestSet(1, 1));
        Bounds.asked("without gone ones: two", first, 6, x -> x.bestSet(2, 1));
        Bounds.asked("without gone ones: three", first, 22, x -> x.bestSet(3, 1));
    }

    /** "WAYS in which all faces are unlike (of no DICE: 1)" */
    private static void promise30Unlike() {
        Bounds.asked("unlike(0) of a new one", Bounds.NEW, 1, x -> x.unlike(0));
        Bounds.asked("unlike(0)", Bounds.FULL, 1, x -> x.unlike(0));
        Bounds.asked("unlike(1): one die always", Bounds.FULL, 21, x -> x.unlike(1));
        Bounds.asked("unlike(3)", Bounds.FULL, 147 - 12, x -> x.unlike(3));
        Bounds.asked("one face alone", Bounds.of("die 0 0 4 0 0 0;die 0 0 5 0 0 0;"), 0, x -> x.unlike(3));
        Bounds.asked("two faces apart", Bounds.of("die 0 0 4 0 0 0;die 0 5 0 0 0 0;"), 20, x -> x.unlike(3));
        Bounds.asked("five on four faces", Bounds.of("die 1 1 1 1 0 0;".repeat(5)), 0, x -> x.unlike(31));
        Bounds.asked("five on five faces", Bounds.of("die 1 1 1 1 1 0;".repeat(5)), 120, x -> x.unlike(31));
        Bounds.asked("five on six faces", Bounds.of("die 1 1 1 1 1 1;".repeat(5)), 720, x -> x.unlike(31));
        Bounds.asked("five of the most", Bounds.of(MOST.repeat(5)), 720L * 3200000, x -> x.unlike(31));
    }

    /** "unlike and, put in order, one behind the other without a gap (of no DICE: 1)" */
    private static void promise31Run() {
        Bounds.asked("run(0) of a new one", Bounds.NEW, 1, x -> x.run(0));
        Bounds.asked("run(0)", Bounds.FULL, 1, x -> x.run(0));
        Bounds.asked("run(1): one die always", Bounds.FULL, 21, x -> x.run(1));
        Bounds.asked("run(3)", Bounds.FULL, 6 * 2 + 1 * 5, x -> x.run(3));
        Bounds.asked("like faces", Bounds.of("die 0 0 4 0 0 0;die 0 0 5 0 0 0;"), 0, x -> x.run(3));
        Bounds.asked("one behind the other", Bounds.of("die 0 0 4 0 0 0;die 0 5 0 0 0 0;"), 20, x -> x.run(3));
        Bounds.asked("a gap", Bounds.of("die 0 0 4 0 0 0;die 5 0 0 0 0 0;"), 0, x -> x.run(3));
        Bounds.asked("1 is not behind 6", Bounds.of("die 0 0 0 0 0 4;die 5 0 0 0 0 0;"), 0, x -> x.run(3));
        Bounds.asked("5 and 6", Bounds.of("die 0 0 0 0 0 4;die 0 0 0 0 5 0;"), 20, x -> x.run(3));
        Bounds.asked("1 and 2", Bounds.of("die 4 0 0 0 0 0;die 0 5 0 0 0 0;"), 20, x -> x.run(3));
        Bounds.asked("6, 1, 2", Bounds.of("die 0 0 0 0 0 1;die 1 0 0 0 0 0;die 0 1 0 0 0 0;"), 0, x -> x.run(7));
        Bounds.asked("three out of order", Bounds.of("die 0 0 0 1 0 0;die 0 1 0 0 0 0;die 0 0 1 0 0 0;"), 1, x -> x.run(7));
        Bounds.asked("two and one more", Bounds.of("die 1 0 0 0 0 0;die 0 1 0 0 0 0;die 0 0 0 1 0 0;"), 0, x -> x.run(7));
        Bounds.asked("1 to 5", Bounds.of("die 1 1 1 1 1 0;".repeat(5)), 120, x -> x.run(31));
        Bounds.asked("2 to 6", Bounds.of("die 0 1 1 1 1 1;".repeat(5)), 120, x -> x.run(31));
        Bounds.asked("without a 3", Bounds.of("die 1 1 0 1 1 1;".repeat(5)), 0, x -> x.run(31));
        Bounds.asked("both of five", Bounds.of("die 1 1 1 1 1 1;".repeat(5)), 240, x -> x.run(31));
    }

    /** "DICE (bits) that have no WEIGHT at a face. IllegalArgumentException: no face." */
    private static void promise32Cannot() {
        Bounds.outside("cannot", Bounds.FULL, Check.ARGUMENT, (x, face) -> x.cannot(face), -1, 0, 7);
        Bounds.outside("cannot of a new one", Bounds.NEW, Check.ARGUMENT, (x, face) -> x.cannot(face), -1, 0, 7);
        int[] want = {4, 6, 6, 6, 6, 4};
        for (int face = 1; face <= 6; face++) {
            int asked = face;
            Bounds.asked("cannot(" + face + ")", Bounds.FULL, want[face - 1], x -> x.cannot(asked));
            Bounds.asked("cannot(" + face + ") of a new one", Bounds.NEW, 0, x -> x.cannot(asked));
            Bounds.asked("cannot(" + face + ") of five", Bounds.of(MOST.repeat(5)), 0, x -> x.cannot(asked));
            Bounds.taken("cannot(" + face + ") of five gone ones", Bounds.of(MOST.repeat(5)), 31, x -> {
                x.rain(20);
                return x.cannot(asked);
            });
        }
        SugarDice x = Check.laid("die 0 0 2 0 0 0;die 0 0 1 0 0 0;");
        Check.due("weights of 2 and 1", x.cannot(3), 0);
        x.rain(1);
        Check.due("weights of 1 and 0", x.cannot(3), 2);
    }

    /** "at least once"; "no face, n isn't 1 to 8"; "it is GONE" */
    private static void promise33Once() {
        Bounds.outside("once(.., 1, 1)", Bounds.FULL, Check.NO_SUCH, (x, d) -> x.once(d, 1, 1), -1, 3, 4, 5);
        Bounds.outside("once(.., 0, 1)", Bounds.FULL, Check.NO_SUCH, (x, d) -> x.once(d, 0, 1), -1, 3);
        Bounds.outside("once(.., 1, 9)", Bounds.FULL, Check.NO_SUCH, (x, d) -> x.once(d, 1, 9), -1, 3);
        for (int d = 0; d < 3; d++) {
            int die = d;
            Bounds.outside("once(" + d + ", .., 1)", Bounds.FULL, Check.ARGUMENT, (x, face) -> x.once(die, face, 1), -1, 0, 7);
            Bounds.outside("once(" + d + ", 1, ..)", Bounds.FULL, Check.ARGUMENT, (x, n) -> x.once(die, 1, n), -1, 0, 9);
        }
        Bounds.refused("once(2, 1, 1) of a gone one", Bounds.FULL, Check.STATE, x -> x.once(2, 1, 1));
        Bounds.refused("once(2, 6, 8) of a gone one", Bounds.FULL, Check.STATE, x -> x.once(2, 6, 8));
        Bounds.asked("once(0, 1, 1)", Bounds.FULL, 1, x -> x.once(0, 1, 1));
        Bounds.asked("once(0, 6, 1)", Bounds.FULL, 6, x -> x.once(0, 6, 1));
        Bounds.asked("once(0, 6, 2)", Bounds.FULL, 441 - 225, x -> x.once(0, 6, 2));
        Bounds.asked("once(1, 6, 8)", Bounds.FULL, 5764801 - 1679616, x -> x.once(1, 6, 8));
        Bounds.asked("without weight", Bounds.FULL, 0, x -> x.once(1, 2, 8));
        Bounds.asked("the one face", Bounds.of("die 0 0 3 0 0 0;"), 6561, x -> x.once(0, 3, 8));
        Bounds.asked("100 to the 8th", Bounds.of("die 0 20 20 20 20 20;"), 10000000000000000L - 1677721600000000L,
            x -> x.once(0, 6, 8));
        Bounds.asked("120 to the 8th", Bounds.of(MOST), 42998169600000000L - 10000000000000000L, x -> x.once(0, 1, 8));
    }

    /** "each face that has some WEIGHT"; "n isn't 1 to 8"; "it is GONE" */
    private static void promise34AllFaces() {
        Bounds.outside("allFaces(.., 1)", Bounds.FULL, Check.NO_SUCH, (x, d) -> x.allFaces(d, 1), -1, 3, 4, 5);
        Bounds.outside("allFaces(.., 0)", Bounds.FULL, Check.NO_SUCH, (x, d) -> x.allFaces(d, 0), -1, 3);
        for (int d = 0; d < 3; d++) {
            int die = d;
            Bounds.outside("allFaces(" + d + ", ..)", Bounds.FULL, Check.ARGUMENT, (x, n) -> x.allFaces(die, n), -1, 0, 9);
        }
        Bounds.refused("allFaces(2, 1) of a gone one", Bounds.FULL, Check.STATE, x -> x.allFaces(2, 1));
        Bounds.refused("allFaces(2, 8) of a gone one", Bounds.FULL, Check.STATE, x -> x.allFaces(2, 8));
        Bounds.asked("two faces in one throw", Bounds.FULL, 0, x -> x.allFaces(1, 1));
        Bounds.asked("two faces in two", Bounds.FULL, 12, x -> x.allFaces(1, 2));
        Bounds.asked("two faces in eight", Bounds.FULL, 5764801 - 1679616 - 1, x -> x.allFaces(1, 8));
        Bounds.asked("six faces in five", Bounds.FULL, 0, x -> x.allFaces(0, 5));
        Bounds.asked("six faces in six", Bounds.FULL, 720 * 720, x -> x.allFaces(0, 6));
        Bounds.asked("one face in one", Bounds.of("die 0 0 3 0 0 0;"), 3, x -> x.allFaces(0, 1));
        Bounds.asked("one face in eight", Bounds.of("die 0 0 3 0 0 0;"), 6561, x -> x.allFaces(0, 8));
        Bounds.asked("six of the most in eight", Bounds.of(MOST), 191520L * 25600000000L, x -> x.allFaces(0, 8));
        SugarDice x = Check.laid("die 1 0 0 0 0 9;");
        x.rain(1);
        Check.due("a face worn away isn't wanted", x.allFaces(0, 1), 8);
    }

    /** "each THROW brings one more, if its face is above 3, else one less; it ends with none, or as many as one goes for" */
    private static void promise35Coins() {
        for (int face = 1; face <= 6; face++) {
            StringBuilder die = new StringBuilder("die");
            for (int i = 1; i <= 6; i++) {
                die.append(i == face ? " 1" : " 0");
            }
            long want = face > 3 ? 1 : 0;
            Bounds.asked("face " + face + " alone", Bounds.of(die + ";"), want, x -> x.coins(0, 1, 2, 1));
            Bounds.asked("face " + face + " eight times", Bounds.of(die + ";"), want, x -> x.coins(0, 2, 10, 8));
            Bounds.asked("face " + face + " too few times", Bounds.of(die + ";"), 0, x -> x.coins(0, 2, 10, 7));
        }
        Bounds.Setup two = Bounds.of("die 0 0 2 3 0 0;");
        Bounds.asked("no throws", two, 0, x -> x.coins(0, 1, 2, 0));
        Bounds.asked("one throw", two, 3, x -> x.coins(0, 1, 2, 1));
        Bounds.asked("none is the end", two, 3 * 5, x -> x.coins(0, 1, 2, 2));
        Bounds.asked("none is the end of three", two, 3 * 25, x -> x.coins(0, 1, 2, 3));
        Bounds.asked("one is not the end", two, 3 * 25 + 2 * 3 * 3, x -> x.coins(0, 2, 3, 3));
        Bounds.asked("the goal is the end", two, 3 * 3 * 5, x -> x.coins(0, 1, 3, 3));
        Bounds.asked("9 of 10", two, 3, x -> x.coins(0, 9, 10, 1));
        Bounds.asked("1 of 10 in eight", two, 0, x -> x.coins(0, 1, 10, 8));
        Bounds.asked("2 of 10 in eight", two, 6561, x -> x.coins(0, 2, 10, 8));
        Bounds.asked("the most", Bounds.of("die 0 0 0 20 20 20;"), 167961600000000L, x -> x.coins(0, 1, 2, 8));
    }

    /** "coins aren't 1 to 9, goal isn't above these and 10 at most, n isn't 0 to 8"; "it is GONE" */
    private static void promise35Refused() {
        Bounds.outside("coins(.., 1, 2, 0)", Bounds.FULL, Check.NO_SUCH, (x, d) -> x.coins(d, 1, 2, 0), -1, 3, 4, 5);
        Bounds.outside("coins(.., 0, 0, 9)", Bounds.FULL, Check.NO_SUCH, (x, d) -> x.coins(d, 0, 0, 9), -1, 3);
        for (int d = 0; d < 3; d++) {
            int die = d;
            String of = "coins(" + d;
            Bounds.outside(of + ", .., 10, 1)", Bounds.FULL, Check.ARGUMENT, (x, c) -> x.coins(die, c, 10, 1), -1, 0, 10, 11);
            Bounds.outside(of + ", .., 11, 1)", Bounds.FULL, Check.ARGUMENT, (x, c) -> x.coins(die, c, 11, 1), 0, 9, 10);
            Bounds.outside(of + ", 1, .., 1)", Bounds.FULL, Check.ARGUMENT, (x, g) -> x.coins(die, 1, g, 1), -1, 0, 1, 11);
            Bounds.outside(of + ", 5, .., 1)", Bounds.FULL, Check.ARGUMENT, (x, g) -> x.coins(die, 5, g, 1), 4, 5, 11);
            Bounds.outside(of + ", 9, .., 1)", Bounds.FULL, Check.ARGUMENT, (x, g) -> x.coins(die, 9, g, 1), 8, 9, 11);
            Bounds.outside(of + ", 1, 2, ..)", Bounds.FULL, Check.ARGUMENT, (x, n) -> x.coins(die, 1, 2, n), -1, 9);
        }
        Bounds.refused("coins of a gone one", Bounds.FULL, Check.STATE, x -> x.coins(2, 1, 2, 1));
        Bounds.refused("coins of a gone one, no throws", Bounds.FULL, Check.STATE, x -> x.coins(2, 9, 10, 0));
        for (int coins = 1; coins <= 9; coins++) {
            int have = coins;
            for (int goal = coins + 1; goal <= 10; goal++) {
                int want = goal;
                Bounds.asked("coins(0, " + coins + ", " + goal + ", 0)", Bounds.FULL, 0, x -> x.coins(0, have, want, 0));
            }
            Bounds.asked("coins(0, " + coins + ", " + (coins + 1) + ", 1)", Bounds.FULL, 15,
                x -> x.coins(0, have, have + 1, 1));
        }
    }
}
