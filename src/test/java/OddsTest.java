/** Promises 22 to 35: odds, against all faces told one by one. */
public final class OddsTest {
    private static final String TABLE = "die 1 2 3 4 5 6;die 6 0 0 0 0 1 salt;die 0 0 4 0 0 4;die 20 20 20 20 20 20;die 0 1 0 1 0 1;hand 0;";
    private static final int[][] WEIGHTS = {
        {1, 2, 3, 4, 5, 6}, {6, 0, 0, 0, 0, 1}, {0, 0, 4, 0, 0, 4}, {20, 20, 20, 20, 20, 20}, {0, 1, 0, 1, 0, 1}};

    public static void main(String[] args) {
        sets();
        greatest();
        asked();
        wrongSets();
        bestSets();
        cannot();
        once();
        everyFace();
        coins();
        Check.end();
    }

    /** What all ways of a set come to, each kind told from the faces alone. */
    private static final class Told {
        long whole;
        long alike;
        long unlike;
        long run;
        long weighed;
        final long[] sums = new long[31];

        Told(int set) {
            tell(set, 0, 1, new int[7], 0, 0);
        }

        private void tell(int set, int d, long ways, int[] shown, int sum, int many) {
            if (d == 5) {
                note(ways, shown, sum, many);
                return;
            }
            if ((set & 1 << d) == 0) {
                tell(set, d + 1, ways, shown, sum, many);
                return;
            }
            for (int face = 1; face <= 6; face++) {
                shown[face]++;
                tell(set, d + 1, ways * WEIGHTS[d][face - 1], shown, sum + face, many + 1);
                shown[face]--;
            }
        }

        private void note(long ways, int[] shown, int sum, int many) {
            whole += ways;
            sums[sum] += ways;
            weighed += sum * ways;
            int most = 0;
            int low = 0;
            int high = 0;
            for (int face = 1; face <= 6; face++) {
                most = Math.max(most, shown[face]);
                if (shown[face] > 0) {
                    low = low == 0 ? face : low;
                    high = face;
                }
            }
            alike += most == many ? ways : 0;
            unlike += most <= 1 ? ways : 0;
            run += most <= 1 && (many == 0 || high - low == many - 1) ? ways : 0;
        }
    }

    private static void sets() {
        for (int set = 0; set < 32; set++) {
            SugarDice x = Check.laid(TABLE);
            Told told = new Told(set);
            String of = " of set " + set;
            Check.due("whole" + of, x.whole(set), told.whole);
            Check.due("alike" + of, x.alike(set), told.alike);
            Check.due("unlike" + of, x.unlike(set), told.unlike);
            Check.due("run" + of, x.run(set), told.run);
            Check.due("mean" + of, x.mean(set, 0), told.weighed / told.whole);
            Check.due("mean's rest" + of, x.mean(set, 1), told.weighed % told.whole);
            sumsOf(x, set, told);
        }
    }

    private static void sumsOf(SugarDice x, int set, Told told) {
        int bits = 0;
        int mode = 0;
        long least = 0;
        for (int sum = 30; sum >= 0; sum--) {
            least += told.sums[sum];
            Check.due("sum(" + set + ", " + sum + ")", x.sum(set, sum), told.sums[sum]);
            Check.due("least(" + set + ", " + sum + ")", x.least(set, sum), least);
            bits |= told.sums[sum] > 0 ? 1 << sum : 0;
            mode = told.sums[sum] >= told.sums[mode] ? sum : mode;
        }
        Check.due("sums(" + set + ")", x.sums(set), bits);
        Check.due("mode(" + set + ")", x.mode(set), mode);
        for (int sum : new int[] {-1, 31, 32, 1000, Integer.MIN_VALUE, Integer.MAX_VALUE}) {
            Check.due("sum(" + set + ", " + sum + ")", x.sum(set, sum), 0);
            Check.due("least(" + set + ", " + sum + ")", x.least(set, sum), sum < 0 ? least : 0);
        }
    }

    private static void greatest() {
        String most = "die 20 20 20 20 20 20;";
        SugarDice x = Check.laid(most + most + most + most + most);
        Check.due("whole", x.whole(31), 24883200000L);
        Check.due("sum of 30", x.sum(31, 30), 3200000);
        Check.due("mean", x.mean(31, 0), 17);
        Check.due("mean's rest", x.mean(31, 1), 12441600000L);
        Check.due("mode, the least", x.mode(31), 17);
        Check.due("all sums", x.sums(31), 0x7fffffe0);
        Check.due("unlike", x.unlike(31), 720L * 3200000);
        Check.due("run", x.run(31), 240L * 3200000);
        Check.due("alike", x.alike(31), 6L * 3200000);
        Check.due("once", x.once(0, 1, 8), 42998169600000000L - 10000000000000000L);
        Check.due("all faces", x.allFaces(0, 8), 191520L * 25600000000L);
        Check.due("coins", x.coins(0, 9, 10, 1), 60);
    }

    /** Each call asked behind one about another set. */
    private static void asked() {
        SugarDice x = Check.laid(TABLE);
        x.sum(0, 0);
        Check.due("sum", x.sum(4, 3), 4);
        Check.due("mode", x.mode(1), 6);
        Check.due("sums", x.sums(4), 72);
        Check.due("mean", x.mean(2, 0), 1);
        Check.due("least", x.least(1, 6), 6);
        Check.due("mean", x.mean(4, 1), 4);
        Check.due("mode", x.mode(2), 1);
        Check.due("sums", x.sums(16), 84);
    }

    private interface OfSet {
        long answer(SugarDice x, int set);
    }

    private static void wrongSets() {
        OfSet[] calls = {SugarDice::whole, (x, s) -> x.sum(s, 1), (x, s) -> x.least(s, 1), SugarDice::alike,
            SugarDice::mode, SugarDice::sums, (x, s) -> x.mean(s, 0), SugarDice::unlike, SugarDice::run};
        SugarDice x = Check.laid("die 1 0 0 0 0 0;die 2 2 0 0 0 0;die 3 0 0 0 0 3 salt;");
        SugarDice empty = new SugarDice();
        x.rain(1);
        for (int i = 0; i < calls.length; i++) {
            OfSet call = calls[i];
            Check.refused("a set with others, call " + i, Check.ARGUMENT, () -> call.answer(x, 8));
            Check.refused("a set with others and gone ones, call " + i, Check.ARGUMENT, () -> call.answer(x, 9));
            Check.refused("a set below 0, call " + i, Check.ARGUMENT, () -> call.answer(x, -1));
            Check.refused("the highest bit, call " + i, Check.ARGUMENT, () -> call.answer(x, Integer.MIN_VALUE));
            Check.refused("a high bit, call " + i, Check.ARGUMENT, () -> call.answer(x, 1 << 30));
            Check.refused("a gone one, call " + i, Check.STATE, () -> call.answer(x, 1));
            Check.refused("a gone one with others, call " + i, Check.STATE, () -> call.answer(x, 7));
            Check.refused("no dice, call " + i, Check.ARGUMENT, () -> call.answer(empty, 1));
        }
        Check.due("those that are left", x.whole(6), 12);
        Check.refused("mean(2, 2)", Check.ARGUMENT, () -> x.mean(2, 2));
        Check.refused("mean(2, -1)", Check.ARGUMENT, () -> x.mean(2, -1));
        Check.refused("mean(1, 2) of a gone one", Check.ARGUMENT, () -> x.mean(1, 2));
        Check.due("whole(0)", empty.whole(0), 1);
        Check.due("sum(0, 0)", empty.sum(0, 0), 1);
        Check.due("sums(0)", empty.sums(0), 1);
        Check.due("mode(0)", empty.mode(0), 0);
        Check.due("mean(0, 1)", empty.mean(0, 1), 0);
        Check.due("alike(0)", empty.alike(0), 1);
        Check.due("unlike(0)", empty.unlike(0), 1);
        Check.due("run(0)", empty.run(0), 1);
    }

    private static void bestSets() {
        for (int n = 1; n <= 3; n++) {
            for (int sum = -1; sum <= 20; sum++) {
                SugarDice x = Check.laid(TABLE);
                int best = -1;
                double odds = -1;
                for (int set = 0; set < 32; set++) {
                    double here = x.least(set, sum) / (double) x.whole(set);
                    if (Integer.bitCount(set) == n && here > odds + 1e-12) {
                        best = set;
                        odds = here;
                    }
                }
                Check.due("bestSet(" + n + ", " + sum + ")", x.bestSet(n, sum), best);
            }
        }
        SugarDice x = Check.laid(TABLE);
        Check.refused("bestSet(0, 1)", Check.ARGUMENT, () -> x.bestSet(0, 1));
        Check.refused("bestSet(4, 1)", Check.ARGUMENT, () -> x.bestSet(4, 1));
        Check.due("the least of all", x.bestSet(2, Integer.MIN_VALUE), 3);
        Check.due("none can", x.bestSet(2, Integer.MAX_VALUE), 3);
        x.ants(40);
        Check.due("without gone ones", x.bestSet(2, 99), 10);
        Check.due("not so many", x.bestSet(3, 1), -1);
        SugarDice same = Check.laid("die 0 0 0 0 1 1;die 0 0 0 0 3 3;die 0 0 0 0 0 1;");
        Check.due("of like odds the least", Check.laid("die 0 0 0 0 1 1;die 0 0 0 0 3 3;").bestSet(1, 6), 1);
        Check.due("the greatest", same.bestSet(1, 6), 4);
        Check.due("two of them", same.bestSet(2, 12), 5);
    }

    private static void cannot() {
        SugarDice x = Check.laid(TABLE);
        int[] want = {20, 4 + 2, 18, 6, 22, 0};
        for (int face = 1; face <= 6; face++) {
            Check.due("cannot(" + face + ")", x.cannot(face), want[face - 1]);
        }
        x.rain(1);
        Check.due("behind rain", x.cannot(6), 16);
        x.rain(20);
        Check.due("gone ones can't", x.cannot(1), 29);
        Check.refused("cannot(0)", Check.ARGUMENT, () -> x.cannot(0));
        Check.refused("cannot(7)", Check.ARGUMENT, () -> x.cannot(7));
        Check.due("no dice", new SugarDice().cannot(1), 0);
    }

    /** How many ways n throws show exactly the told faces (bits) and no others, told one by one. */
    private static long[] shownSets(int d, int n) {
        long[] ways = new long[64];
        int rows = 1;
        for (int i = 0; i < n; i++) {
            rows *= 6;
        }
        for (int row = 0; row < rows; row++) {
            long product = 1;
            int faces = 0;
            for (int i = 0, rest = row; i < n; i++, rest /= 6) {
                product *= WEIGHTS[d][rest % 6];
                faces |= 1 << rest % 6;
            }
            ways[faces] += product;
        }
        return ways;
    }

    private static void once() {
        SugarDice x = Check.laid(TABLE);
        for (int d = 0; d < 5; d++) {
            for (int n = 1; n <= 7; n++) {
                long[] ways = shownSets(d, n);
                for (int face = 1; face <= 6; face++) {
                    long want = 0;
                    for (int set = 0; set < 64; set++) {
                        want += (set & 1 << face - 1) != 0 ? ways[set] : 0;
                    }
                    Check.due("once(" + d + ", " + face + ", " + n + ")", x.once(d, face, n), want);
                }
            }
        }
        Check.refused("once(5, 0, 0)", Check.NO_SUCH, () -> x.once(5, 0, 0));
        Check.refused("once(-1, 1, 1)", Check.NO_SUCH, () -> x.once(-1, 1, 1));
        Check.refused("once(0, 0, 1)", Check.ARGUMENT, () -> x.once(0, 0, 1));
        Check.refused("once(0, 7, 1)", Check.ARGUMENT, () -> x.once(0, 7, 1));
        Check.refused("once(0, 1, 0)", Check.ARGUMENT, () -> x.once(0, 1, 0));
        Check.refused("once(0, 1, 9)", Check.ARGUMENT, () -> x.once(0, 1, 9));
        x.rain(6);
        Check.refused("once of a gone one", Check.STATE, () -> x.once(0, 1, 1));
        Check.refused("once(0, 1, 9) of a gone one", Check.ARGUMENT, () -> x.once(0, 1, 9));
        Check.refused("once(0, 7, 1) of a gone one", Check.ARGUMENT, () -> x.once(0, 7, 1));
    }

    private static void everyFace() {
        SugarDice x = Check.laid(TABLE);
        for (int d = 0; d < 5; d++) {
            int faces = 0;
            for (int face = 1; face <= 6; face++) {
                faces |= WEIGHTS[d][face - 1] > 0 ? 1 << face - 1 : 0;
            }
            for (int n = 1; n <= 7; n++) {
                Check.due("allFaces(" + d + ", " + n + ")", x.allFaces(d, n), shownSets(d, n)[faces]);
            }
        }
        Check.due("one face alone", Check.laid("die 0 0 3 0 0 0;").allFaces(0, 8), 6561);
        Check.refused("allFaces(5, 0)", Check.NO_SUCH, () -> x.allFaces(5, 0));
        Check.refused("allFaces(0, 0)", Check.ARGUMENT, () -> x.allFaces(0, 0));
        Check.refused("allFaces(0, 9)", Check.ARGUMENT, () -> x.allFaces(0, 9));
        x.rain(6);
        Check.refused("allFaces of a gone one", Check.STATE, () -> x.allFaces(0, 1));
        Check.refused("allFaces(0, 9) of a gone one", Check.ARGUMENT, () -> x.allFaces(0, 9));
    }

    private static long coinWays(int d, int coins, int goal, int n) {
        long[] by = {0, 0};
        for (int face = 1; face <= 6; face++) {
            by[face > 3 ? 1 : 0] += WEIGHTS[d][face - 1];
        }
        long together = 0;
        for (int row = 0; row < 1 << n; row++) {
            long product = 1;
            int have = coins;
            for (int i = 0; i < n; i++) {
                int up = row >> i & 1;
                product *= by[up];
                have += have == 0 || have == goal ? 0 : 2 * up - 1;
            }
            together += have == goal ? product : 0;
        }
        return together;
    }

    private static void coins() {
        for (int d = 0; d < 5; d++) {
            for (int coins = 1; coins <= 9; coins++) {
                SugarDice x = Check.laid(TABLE);
                for (int goal = coins + 1; goal <= 10; goal++) {
                    for (int n = 0; n <= 8; n++) {
                        String call = "coins(" + d + ", " + coins + ", " + goal + ", " + n + ")";
                        Check.due(call, x.coins(d, coins, goal, n), coinWays(d, coins, goal, n));
                    }
                }
            }
        }
        SugarDice x = Check.laid(TABLE);
        Check.refused("coins(5, 0, 0, -1)", Check.NO_SUCH, () -> x.coins(5, 0, 0, -1));
        Check.refused("coins(0, 0, 2, 1)", Check.ARGUMENT, () -> x.coins(0, 0, 2, 1));
        Check.refused("coins(0, 10, 11, 1)", Check.ARGUMENT, () -> x.coins(0, 10, 11, 1));
        Check.refused("coins(0, 9, 11, 1)", Check.ARGUMENT, () -> x.coins(0, 9, 11, 1));
        Check.refused("coins(0, 3, 3, 1)", Check.ARGUMENT, () -> x.coins(0, 3, 3, 1));
        Check.refused("coins(0, 3, 2, 1)", Check.ARGUMENT, () -> x.coins(0, 3, 2, 1));
        Check.refused("coins(0, 3, 4, -1)", Check.ARGUMENT, () -> x.coins(0, 3, 4, -1));
        Check.refused("coins(0, 3, 4, 9)", Check.ARGUMENT, () -> x.coins(0, 3, 4, 9));
        x.rain(6);
        Check.refused("coins of a gone one", Check.STATE, () -> x.coins(0, 3, 4, 1));
        Check.refused("coins of a gone one, no throws", Check.STATE, () -> x.coins(0, 3, 4, 0));
        Check.refused("coins(0, 3, 3, 1) of a gone one", Check.ARGUMENT, () -> x.coins(0, 3, 3, 1));
    }
}
