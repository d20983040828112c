/** Promises 36 to 42: which die beats which. */
public final class BeatingTest {
    /** The first is better than the second (21 to 15), that one than the third (21 to 15), that one than the first (25 to 11). */
    private static final String RING = "die 0 0 5 0 0 1;die 0 3 0 0 3 0;die 1 0 0 5 0 0;";

    public static void main(String[] args) {
        beatsAndTies();
        strongest();
        rings();
        series();
        more();
        evenest();
        wrong();
        Check.end();
    }

    private static long[] contest(String table, int a, int b) {
        SugarDice x = Check.laid(table);
        long[] ways = new long[3];
        for (int fa = 1; fa <= 6; fa++) {
            for (int fb = 1; fb <= 6; fb++) {
                ways[Integer.compare(fa, fb) + 1] += x.die(a, fa) * x.die(b, fb);
            }
        }
        return ways;
    }

    private static final String[] TABLES = {
        "die 1 2 3 4 5 6;die 6 0 0 0 0 1 salt;die 0 0 4 0 0 4;",
        "die 20 20 20 20 20 20;die 0 1 0 1 0 1;die 20 0 0 0 0 0;die 0 0 0 0 0 20;die 3 1 4 1 5 9;",
        "die 0 0 0 7 0 0;die 2 7 1 8 2 8;"};

    private static void beatsAndTies() {
        for (String table : TABLES) {
            SugarDice x = Check.laid(table);
            for (int a = 0; a < x.count(1); a++) {
                for (int b = 0; b < x.count(1); b++) {
                    long[] want = contest(table, a, b);
                    Check.due("beats(" + a + ", " + b + ") of " + table, x.beats(a, b), want[2]);
                    Check.due("ties(" + a + ", " + b + ") of " + table, x.ties(a, b), want[1]);
                }
            }
        }
    }

    private static void strongest() {
        Check.due("strongest of none", new SugarDice().strongest(), -1);
        Check.due("of 1 to 6", Check.laid(TABLES[0]).strongest(), 2);
        Check.due("the highest", Check.laid(TABLES[1]).strongest(), 3);
        Check.due("of a ring the first", Check.laid(RING).strongest(), 0);
        Check.due("of like ones the first", Check.laid("die 1 1 0 0 0 0;die 1 1 0 0 0 0;").strongest(), 0);
        SugarDice x = Check.laid("die 1 0 0 0 0 3;die 0 0 0 0 2 0;die 4 0 0 0 0 0;");
        Check.due("not worn", x.strongest(), 0);
        x.rain(3);
        Check.due("the one that is left", x.strongest(), 2);
        x.rain(20);
        Check.due("all are gone", x.strongest(), -1);
        SugarDice y = Check.laid("die 0 0 0 0 0 1;die 3 0 0 0 0 0;die 0 3 0 0 0 0;");
        y.rain(1);
        Check.due("a gone one is none", y.strongest(), 2);
    }

    private static void rings() {
        Check.due("a ring", Check.laid(RING).ring(0), 12);
        Check.due("one ring", Check.laid(RING).ring(-1), 1);
        Check.due("the other way round", Check.laid("die 0 0 5 0 0 1;die 1 0 0 5 0 0;die 0 3 0 0 3 0;").ring(0), 21);
        Check.due("no ring", Check.laid(TABLES[0]).ring(-1), 0);
        for (String table : new String[] {RING, RING + "die 0 3 0 0 3 0;die 1 0 0 5 0 0;", "die 20 0 0 0 0 0;" + RING,
            "die 1 0 0 5 0 0;" + RING + "die 0 0 5 0 0 1;"}) {
            ringsAsDue(table);
        }
        SugarDice gone = Check.laid(RING);
        gone.salts(0);
        gone.salts(1);
        Check.due("a ring ahead of rain", gone.ring(-1), 1);
        gone.rain(20);
        Check.due("no ring with a gone one", gone.ring(-1), 0);
        Check.due("no ring without dice", new SugarDice().ring(-1), 0);
    }

    private static void ringsAsDue(String table) {
        SugarDice x = Check.laid(table);
        int many = 0;
        for (int number = 0; number < 555; number++) {
            int a = number / 100;
            int b = number / 10 % 10;
            int c = number % 10;
            if (a < b && a < c && b < x.count(1) && c < x.count(1) && b != c
                && contest(table, a, b)[2] > contest(table, a, b)[0]
                && contest(table, b, c)[2] > contest(table, b, c)[0]
                && contest(table, c, a)[2] > contest(table, c, a)[0]) {
                Check.due("ring(" + many + ") of " + table, x.ring(many), number);
                many++;
            }
        }
        Check.due("there are rings in " + table, many > 0, true);
        Check.due("rings of " + table, x.ring(-1), many);
        Check.due("no more rings of " + table, x.ring(many), -1);
        Check.due("ring(-2)", x.ring(-2), -1);
        Check.due("ring of the greatest", x.ring(Integer.MAX_VALUE), -1);
    }

    private static void series() {
        for (String table : TABLES) {
            SugarDice x = Check.laid(table);
            for (int a = 0; a < x.count(1); a++) {
                for (int b = 0; b < x.count(1); b++) {
                    long[] by = contest(table, a, b);
                    long l = by[0];
                    long t = by[1];
                    long w = by[2];
                    String of = " of " + a + ", " + b;
                    Check.due("series of 1" + of, x.series(a, b, 1), w);
                    Check.due("series of 2" + of, x.series(a, b, 2), w * w + 2 * w * t);
                    Check.due("series of 3" + of, x.series(a, b, 3),
                        w * w * w + 3 * w * w * t + 3 * w * w * l + 3 * w * t * t);
                }
            }
        }
    }

    private static long[] sums(String table, int d, int n) {
        SugarDice x = Check.laid(table);
        long[] ways = {1};
        for (int i = 0; i < n; i++) {
            long[] next = new long[ways.length + 6];
            for (int s = 0; s < ways.length; s++) {
                for (int face = 1; face <= 6; face++) {
                    next[s + face] += ways[s] * x.die(d, face);
                }
            }
            ways = next;
        }
        return ways;
    }

    private static void more() {
        for (String table : TABLES) {
            SugarDice x = Check.laid(table);
            for (int a = 0; a < x.count(1); a++) {
                for (int b = 0; b < x.count(1); b++) {
                    for (int n = 1; n <= 3; n++) {
                        long want = 0;
                        long[] left = sums(table, a, n);
                        long[] right = sums(table, b, n);
                        for (int s = 0; s < left.length; s++) {
                            for (int t = 0; t < s; t++) {
                                want += left[s] * right[t];
                            }
                        }
                        Check.due("more(" + a + ", " + b + ", " + n + ")", x.more(a, b, n), want);
                    }
                }
            }
        }
    }

    private static void evenest() {
        Check.due("evenest of none", new SugarDice().evenest(), -1);
        Check.due("evenest of one", Check.laid("die 1 2 3 4 5 6;").evenest(), -1);
        Check.due("evenest of 1 to 6", Check.laid(TABLES[0]).evenest(), 2);
        Check.due("as a part", Check.laid("die 0 0 1 0 0 0;die 0 1 0 1 1 0;die 20 0 20 0 20 1;").evenest(), 2);
        Check.due("not as ways", Check.laid("die 0 1 0 0 0 0;die 1 0 0 0 0 0;die 10 0 0 0 10 2;").evenest(), 2);
        Check.due("the first of like ones", Check.laid("die 1 0 0 0 0 0;die 0 1 0 0 0 0;die 0 0 1 0 0 0;").evenest(), 1);
        Check.due("like ones", Check.laid("die 1 0 0 0 0 0;die 0 1 2 0 0 0;die 0 1 2 0 0 0;").evenest(), 12);
        SugarDice x = Check.laid("die 1 0 0 0 0 0;die 1 0 0 0 0 0;die 0 2 0 0 0 0;die 0 0 5 0 0 0;");
        Check.due("before rain", x.evenest(), 1);
        x.rain(1);
        Check.due("without gone ones", x.evenest(), 23);
        x.rain(1);
        Check.due("one is left", x.evenest(), -1);
    }

    private interface OfTwo {
        long answer(SugarDice x, int a, int b);
    }

    private static void wrong() {
        OfTwo[] calls = {SugarDice::beats, SugarDice::ties, (x, a, b) -> x.series(a, b, 1), (x, a, b) -> x.more(a, b, 1),
            (x, a, b) -> x.series(a, b, 9), (x, a, b) -> x.more(a, b, 9)};
        SugarDice x = Check.laid("die 1 0 0 0 0 0;die 2 2 0 0 0 0;");
        x.rain(1);
        for (int i = 0; i < calls.length; i++) {
            OfTwo call = calls[i];
            Check.refused("no first, call " + i, Check.NO_SUCH, () -> call.answer(x, 2, 1));
            Check.refused("no second, call " + i, Check.NO_SUCH, () -> call.answer(x, 1, -1));
            Check.refused("a gone first, no second, call " + i, Check.NO_SUCH, () -> call.answer(x, 0, 2));
            Check.refused("a gone first, call " + i, Check.STATE, () -> call.answer(x, 0, 1));
            Check.refused("a gone second, call " + i, Check.STATE, () -> call.answer(x, 1, 0));
            Check.refused("itself gone, call " + i, Check.STATE, () -> call.answer(x, 0, 0));
        }
        for (int n : new int[] {0, 4, -1}) {
            Check.refused("series of " + n, Check.ARGUMENT, () -> x.series(1, 1, n));
            Check.refused("more of " + n, Check.ARGUMENT, () -> x.more(1, 1, n));
        }
    }
}
