/** Boundaries of promises 36 to 42, each on both sides. */
public final class BoundsBeatingTest {
    private static final String SIX = "die 1 2 3 4 5 6;";
    private static final String MOST = "die 20 20 20 20 20 20;";
    private static final String RING = "die 0 0 5 0 0 1;die 0 3 0 0 3 0;die 1 0 0 5 0 0;";

    private interface OfTwo {
        long answer(SugarDice x, int a, int b);
    }

    public static void main(String[] args) {
        diceOfAllCalls();
        promise36Beats();
        promise37Ties();
        promise38Strongest();
        promise39Ring();
        promise39Better();
        promise39NoneGone();
        promise40Series();
        promise41More();
        promise42Evenest();
        promise42AsAPart();
        promise42NoTwo();
        Check.end();
    }

    /** "NoSuchElementException; IllegalStateException: one is GONE (as below)" */
    private static void diceOfAllCalls() {
        OfTwo[] calls = {SugarDice::beats, SugarDice::ties, (x, a, b) -> x.series(a, b, 1), (x, a, b) -> x.series(a, b, 3),
            (x, a, b) -> x.series(a, b, 0), (x, a, b) -> x.series(a, b, 4), (x, a, b) -> x.more(a, b, 1),
            (x, a, b) -> x.more(a, b, 3), (x, a, b) -> x.more(a, b, 0), (x, a, b) -> x.more(a, b, 4)};
        for (int i = 0; i < calls.length; i++) {
            OfTwo call = calls[i];
            for (int die = 0; die < 3; die++) {
                int other = die;
                String of = " and " + die + " of call " + i;
                Bounds.outside("no first" + of, Bounds.FULL, Check.NO_SUCH, (x, a) -> call.answer(x, a, other), -1, 3, 4);
                Bounds.outside("no second" + of, Bounds.FULL, Check.NO_SUCH, (x, b) -> call.answer(x, other, b), -1, 3, 4);
                Bounds.refused("a gone first" + of, Bounds.FULL, Check.STATE, x -> call.answer(x, 2, other));
                Bounds.refused("a gone second" + of, Bounds.FULL, Check.STATE, x -> call.answer(x, other, 2));
            }
            Bounds.outside("neither", Bounds.FULL, Check.NO_SUCH, (x, a) -> call.answer(x, a, a), -1, 3);
            Bounds.outside("no dice", Bounds.NEW, Check.NO_SUCH, (x, a) -> call.answer(x, a, 0), -1, 0, 1);
        }
    }

    /** "as its face is more than the other one's"; "(or itself, thrown twice)" */
    private static void promise36Beats() {
        Bounds.Setup steps = Bounds.of("die 0 0 2 0 0 0;die 0 0 0 3 0 0;die 0 0 5 0 0 0;die 1 0 0 0 0 0;die 0 0 0 0 0 1;");
        Bounds.asked("one more", steps, 6, x -> x.beats(1, 0));
        Bounds.asked("one less", steps, 0, x -> x.beats(0, 1));
        Bounds.asked("as much", steps, 0, x -> x.beats(0, 2));
        Bounds.asked("itself", steps, 0, x -> x.beats(0, 0));
        Bounds.asked("6 and 1", steps, 1, x -> x.beats(4, 3));
        Bounds.asked("1 and 6", steps, 0, x -> x.beats(3, 4));
        Bounds.asked("itself of six faces", Bounds.FULL, 175, x -> x.beats(0, 0));
        Bounds.asked("sugar and salt", Bounds.FULL, 120, x -> x.beats(0, 1));
        Bounds.asked("salt and sugar", Bounds.FULL, 15, x -> x.beats(1, 0));
        Bounds.asked("the most", Bounds.of(MOST.repeat(5)), 6000, x -> x.beats(4, 0));
    }

    /** "WAYS in which both show one face." */
    private static void promise37Ties() {
        Bounds.Setup steps = Bounds.of("die 0 0 2 0 0 0;die 0 0 0 3 0 0;die 0 0 5 0 0 0;die 1 0 0 0 0 0;die 0 0 0 0 0 1;");
        Bounds.asked("as much", steps, 10, x -> x.ties(0, 2));
        Bounds.asked("one more", steps, 0, x -> x.ties(1, 0));
        Bounds.asked("itself", steps, 4, x -> x.ties(0, 0));
        Bounds.asked("1 itself", steps, 1, x -> x.ties(3, 3));
        Bounds.asked("6 itself", steps, 1, x -> x.ties(4, 4));
        Bounds.asked("itself of six faces", Bounds.FULL, 91, x -> x.ties(0, 0));
        Bounds.asked("sugar and salt", Bounds.FULL, 12, x -> x.ties(0, 1));
        Bounds.asked("the most", Bounds.of(MOST.repeat(5)), 2400, x -> x.ties(4, 0));
    }

    /** "The DIE (not GONE) that is BETTER than most others, the first; NONE: there is none." */
    private static void promise38Strongest() {
        Bounds.asked("of none", Bounds.NEW, -1, x -> x.strongest());
        Bounds.asked("of no dice", Bounds.NO_DICE, -1, x -> x.strongest());
        Bounds.asked("of one, better than none", Bounds.of("die 1 0 0 0 0 0;"), 0, x -> x.strongest());
        Bounds.asked("of one and a gone one", Bounds.FULL, 0, x -> x.strongest());
        Bounds.asked("all alike: the first", Bounds.of(SIX.repeat(5)), 0, x -> x.strongest());
        Bounds.asked("of a ring: the first", Bounds.of(RING), 0, x -> x.strongest());
        Bounds.asked("the last of five", Bounds.of("die 1 0 0 0 0 0;".repeat(4) + "die 0 1 0 0 0 0;"), 4, x -> x.strongest());
        Bounds.asked("two of like strength", Bounds.of("die 1 0 0 0 0 0;die 0 1 0 0 0 0;die 0 1 0 0 0 0;"), 1, x -> x.strongest());
        Bounds.asked("better than two, than one", Bounds.of("die 0 1 0 0 0 0;die 1 0 0 0 0 0;die 0 0 1 0 0 0;"), 2,
            x -> x.strongest());
        SugarDice x = Check.laid("die 0 0 0 0 0 1;die 2 0 0 0 0 0;die 0 3 0 0 0 0;");
        Check.due("the first", x.strongest(), 0);
        x.rain(1);
        Check.due("not a gone one", x.strongest(), 2);
        x.rain(1);
        Check.due("one is left", x.strongest(), 2);
        x.rain(1);
        Check.due("all are gone", x.strongest(), -1);
        SugarDice equal = Check.laid("die 0 0 0 0 0 1;die 2 0 0 0 0 0;");
        equal.rain(1);
        Check.due("one is left that is better than none", equal.strongest(), 1);
    }

    /** "The k-th RING, by 100 a, 10 b and c; k NONE: how many; NONE: not so many." */
    private static void promise39Ring() {
        Bounds.Setup four = Bounds.of(RING + "die 0 3 0 0 3 0;die 1 0 0 5 0 0;");
        int[] rings = {12, 14, 32, 34};
        Bounds.asked("how many", four, 4, x -> x.ring(-1));
        for (int k = 0; k < 4; k++) {
            int one = k;
            Bounds.asked("ring(" + k + ")", four, rings[k], x -> x.ring(one));
        }
        for (int k : new int[] {4, 5, -2, -3, Integer.MIN_VALUE, Integer.MAX_VALUE}) {
            Bounds.asked("ring(" + k + ") of four", four, -1, x -> x.ring(k));
            Bounds.asked("ring(" + k + ") of none", Bounds.NEW, -1, x -> x.ring(k));
            Bounds.asked("ring(" + k + ") of one", Bounds.of(RING), -1, x -> x.ring(k));
        }
        Bounds.asked("how many of a new one", Bounds.NEW, 0, x -> x.ring(-1));
        Bounds.asked("the first of a new one", Bounds.NEW, -1, x -> x.ring(0));
        Bounds.asked("how many of one", Bounds.of(RING), 1, x -> x.ring(-1));
        Bounds.asked("the first of one", Bounds.of(RING), 12, x -> x.ring(0));
        Bounds.asked("a second of one", Bounds.of(RING), -1, x -> x.ring(1));
        Bounds.asked("of two dice", Bounds.of("die 0 0 5 0 0 1;die 0 3 0 0 3 0;"), 0, x -> x.ring(-1));
        String turned = "die 0 3 0 0 3 0;die 0 0 5 0 0 1;die 1 0 0 5 0 0;";
        Bounds.asked("a is less than b and c, b more than c", Bounds.of(turned), 21, x -> x.ring(0));
        Bounds.asked("and only so", Bounds.of(turned), 1, x -> x.ring(-1));
        Bounds.asked("not by another first", Bounds.of(turned), -1, x -> x.ring(1));
        Bounds.asked("the last three of five, turned", Bounds.of("die 1 0 0 0 0 0;die 1 0 0 0 0 0;" + turned), 1, x -> x.ring(-1));
        Bounds.asked("the last three of five", Bounds.of("die 1 0 0 0 0 0;die 1 0 0 0 0 0;" + RING), 234, x -> x.ring(0));
    }

    /** "It is BETTER, if it BEATS it in more WAYS than the other way round": as many are not enough. */
    private static void promise39Better() {
        Bounds.asked("18 to 18", Bounds.of("die 0 0 6 0 0 0;die 0 3 0 0 3 0;die 1 0 0 5 0 0;"), 0, x -> x.ring(-1));
        Bounds.asked("one way more", Bounds.of("die 0 0 17 0 0 1;die 0 1 0 0 1 0;die 1 0 0 5 0 0;"), 1, x -> x.ring(-1));
        Bounds.asked("all alike", Bounds.of(SIX.repeat(5)), 0, x -> x.ring(-1));
        Bounds.asked("one above the other", Bounds.of("die 0 0 1 0 0 0;die 0 1 0 0 0 0;die 1 0 0 0 0 0;"), 0, x -> x.ring(-1));
    }

    private static void promise39NoneGone() {
        SugarDice x = Check.laid("die 0 0 5 0 0 1 salt;die 0 3 0 0 3 0 salt;die 4 0 0 20 0 0;");
        Check.due("a ring", x.ring(-1), 1);
        x.rain(3);
        Check.due("a ring behind rain", x.ring(0), 12);
        x.rain(17);
        Check.due("gone", x.die(2, 7), 0);
        Check.due("no ring", x.ring(-1), 0);
        Check.due("no first", x.ring(0), -1);
    }

    /** "IllegalArgumentException: n isn't 1 to 3"; in more games than the other way round */
    private static void promise40Series() {
        Bounds.outside("series(0, 1, ..)", Bounds.FULL, Check.ARGUMENT, (x, n) -> x.series(0, 1, n), -1, 0, 4);
        Bounds.outside("series(0, 0, ..)", Bounds.FULL, Check.ARGUMENT, (x, n) -> x.series(0, 0, n), -1, 0, 4);
        Bounds.Setup even = Bounds.of("die 1 0 0 0 0 1;die 0 0 1 0 0 0;");
        long[] led = {1, 1, 4};
        Bounds.Setup sure = Bounds.of("die 0 0 0 0 0 2;die 3 0 0 0 0 0;");
        long[] won = {6, 36, 216};
        Bounds.Setup like = Bounds.of("die 0 0 2 0 0 0;die 0 0 3 0 0 0;");
        Bounds.Setup most = Bounds.of(MOST.repeat(2));
        long[] great = {6000, 36000000L + 2 * 6000 * 2400, 1226880000000L};
        for (int n = 1; n <= 3; n++) {
            int games = n;
            Bounds.asked("as many as the other, " + n, even, led[n - 1], x -> x.series(0, 1, games));
            Bounds.asked("always, " + n, sure, won[n - 1], x -> x.series(0, 1, games));
            Bounds.asked("never, " + n, sure, 0, x -> x.series(1, 0, games));
            Bounds.asked("neither, " + n, like, 0, x -> x.series(0, 1, games));
            Bounds.asked("the most, " + n, most, great[n - 1], x -> x.series(0, 1, games));
            Bounds.asked("itself, " + n, most, great[n - 1], x -> x.series(1, 1, games));
        }
        Bounds.asked("one won, one tied", Bounds.of("die 0 0 1 0 0 1;die 0 0 1 0 0 0;"), 3, x -> x.series(0, 1, 2));
    }

    /** "n THROWS of a DIE show more together than n of another one"; "n isn't 1 to 3" */
    private static void promise41More() {
        Bounds.outside("more(0, 1, ..)", Bounds.FULL, Check.ARGUMENT, (x, n) -> x.more(0, 1, n), -1, 0, 4);
        Bounds.outside("more(0, 0, ..)", Bounds.FULL, Check.ARGUMENT, (x, n) -> x.more(0, 0, n), -1, 0, 4);
        Bounds.Setup sure = Bounds.of("die 0 0 0 0 0 2;die 3 0 0 0 0 0;");
        long[] always = {6, 36, 216};
        Bounds.Setup like = Bounds.of("die 0 0 2 0 0 0;die 0 0 3 0 0 0;");
        Bounds.Setup near = Bounds.of("die 1 0 1 0 0 0;die 0 1 0 0 0 0;");
        long[] more = {1, 1, 4};
        Bounds.Setup most = Bounds.of(MOST.repeat(2));
        long[] great = {6000, 575L * 160000, 21162L * 64000000};
        for (int n = 1; n <= 3; n++) {
            int times = n;
            Bounds.asked("always, " + n, sure, always[n - 1], x -> x.more(0, 1, times));
            Bounds.asked("never, " + n, sure, 0, x -> x.more(1, 0, times));
            Bounds.asked("as much, " + n, like, 0, x -> x.more(0, 1, times));
            Bounds.asked("one more, " + n, near, more[n - 1], x -> x.more(0, 1, times));
            Bounds.asked("one less, " + n, near, more[n - 1], x -> x.more(1, 0, times));
            Bounds.asked("the most, " + n, most, great[n - 1], x -> x.more(0, 1, times));
            Bounds.asked("itself, " + n, most, great[n - 1], x -> x.more(1, 1, times));
        }
    }

    /** "10 times the lesser one and the other, the first" */
    private static void promise42Evenest() {
        Bounds.asked("two", Bounds.of("die 1 0 0 0 0 0;die 0 0 0 0 0 1;"), 1, x -> x.evenest());
        Bounds.asked("beside a gone one", Bounds.FULL, 1, x -> x.evenest());
        Bounds.asked("five alike: the first", Bounds.of(SIX.repeat(5)), 1, x -> x.evenest());
        Bounds.asked("the last two", Bounds.of("die 1 0 0 0 0 0;die 0 1 0 0 0 0;die 0 0 1 0 0 0;die 0 0 0 1 0 1;die 0 0 0 0 1 0;"),
            34, x -> x.evenest());
        Bounds.asked("the first and the last", Bounds.of("die 1 0 0 0 0 0;die 0 1 0 0 0 0;die 0 0 1 0 0 0;die 7 0 0 0 0 0;"),
            3, x -> x.evenest());
    }

    /** "in WAYS that differ least, as a part of both TOTALS multiplied" */
    private static void promise42AsAPart() {
        String three = "die 1 0 0 0 0 0;die 1 1 0 0 0 0;die 0 0 0 0 2 0;";
        Bounds.asked("1 of 2 and 4 of 8: the first", Bounds.of(three + "die 0 0 0 0 2 2;"), 1, x -> x.evenest());
        Bounds.asked("1 of 2 and 4 of 10: the less", Bounds.of(three + "die 0 0 0 0 3 2;"), 23, x -> x.evenest());
        Bounds.asked("1 of 2 and 6 of 10: the less", Bounds.of(three + "die 0 0 0 0 2 3;"), 1, x -> x.evenest());
    }

    /** "(none GONE)"; "NONE: there are no two" */
    private static void promise42NoTwo() {
        Bounds.asked("none", Bounds.NEW, -1, x -> x.evenest());
        Bounds.asked("one", Bounds.NO_HANDS, -1, x -> x.evenest());
        SugarDice x = Check.laid("die 1 0 0 0 0 0;die 2 0 0 0 0 0;die 0 3 0 0 0 0;die 0 0 4 0 0 0;");
        Check.due("all", x.evenest(), 1);
        x.rain(1);
        Check.due("three", x.evenest(), 12);
        x.rain(1);
        Check.due("two", x.evenest(), 23);
        x.rain(1);
        Check.due("one is left", x.evenest(), -1);
        x.rain(1);
        Check.due("none is left", x.evenest(), -1);
    }
}
