/** Promises 8 to 14: throws, by draws and told. */
public final class ThrowsTest {
    private static final String TABLE = "ants 2;die 1 2 3 4 5 6;die 6 0 0 0 0 1 salt;die 0 0 4 0 0 4;hand 2;hand 0;";

    public static void main(String[] args) {
        casts();
        sixtyThrows();
        shown();
        wearAndHeat();
        back();
        past();
        evenings();
        judged();
        performed();
        Check.end();
    }

    /** A draw by hand, with long arithmetic: the seed behind so many draws. */
    private static int seedBehind(int seed, int draws) {
        long x = seed;
        for (int i = 0; i < draws; i++) {
            x = (1103515245L * x + 12345L) & 0xffffffffL;
        }
        return (int) x;
    }

    private static int drawn(int seed, int draws) {
        return (int) ((seedBehind(seed, draws) & 0xffffffffL) / 65536);
    }

    private static void casts() {
        int[] faces = {1, 2, 2, 3, 3, 3, 4, 4, 4, 4, 5, 5, 5, 5, 5, 6, 6, 6, 6, 6, 6};
        int[] seeds = {0, 1, 2, 3, -1, 99, 12345, -77777, Integer.MAX_VALUE, Integer.MIN_VALUE, 4711, 8, 15, 16, 23, 42};
        for (int seed : seeds) {
            SugarDice x = Check.laid(TABLE);
            int face = faces[drawn(seed, 1) % 21];
            Check.due("cast(0, 1, " + seed + ")", x.cast(0, 1, seed), face);
            Check.due("past of it", x.past(0, 2), face);
            Check.due("its hand's heat", x.hand(1, 0), 1);
            Check.due("its weight by heat 0", x.die(0, face), face);
            int other = x.cast(2, 0, seed);
            Check.due("cast(2, 0, " + seed + ")", other, drawn(seed, 1) % 8 < 4 ? 3 : 6);
            Check.due("its weight by heat 2", x.die(2, other), 2);
        }
        SugarDice x = Check.laid(TABLE);
        Check.refused("cast(3, 0, 1)", Check.NO_SUCH, () -> x.cast(3, 0, 1));
        Check.refused("cast(-1, 0, 1)", Check.NO_SUCH, () -> x.cast(-1, 0, 1));
        Check.refused("cast(0, 2, 1)", Check.NO_SUCH, () -> x.cast(0, 2, 1));
        Check.refused("cast(0, -1, 1)", Check.NO_SUCH, () -> x.cast(0, -1, 1));
        x.rain(20);
        Check.refused("cast of a gone one", Check.STATE, () -> x.cast(0, 0, 1));
        Check.refused("cast of a gone one by no hand", Check.NO_SUCH, () -> x.cast(0, 2, 1));
        Check.due("no throw by these", x.count(4), 0);
    }

    private static SugarDice castSixty() {
        SugarDice x = Check.laid(TABLE);
        for (int i = 0; i < 60; i++) {
            x.cast(1, 0, i);
        }
        return x;
    }

    private static void sixtyThrows() {
        SugarDice x = castSixty();
        String was = Check.state(castSixty());
        Check.due("60 throws", x.count(4), 60);
        Check.due("heat is 9 at most", x.hand(0, 0), 9);
        Check.refused("a 61st cast", Check.STATE, () -> x.cast(1, 0, 1));
        Check.refused("a 61st told", Check.STATE, () -> x.shows(1, 0, 1));
        Check.refused("no face, at 60", Check.ARGUMENT, () -> x.shows(1, 0, 0));
        Check.due("an evening at 60", x.evening(1, 40), 0);
        Check.fill(x, 0, 1, 101);
        Check.due("judged at 60: place", x.judge(0, 0), 0);
        Check.due("judged at 60: why", x.judge(0, 1), 4);
        Check.due("performed at 60", x.perform(0), 0);
        Check.fill(x, 0, 1, 103);
        Check.due("no weight is less than 60", x.judge(0, 1), 3);
        Check.sameState("behind them", x, was);
        Check.due("back(60)", x.back(60), 0);
        Check.due("heat at first", x.hand(0, 0), 2);
    }

    private static void shown() {
        SugarDice x = Check.laid(TABLE);
        Check.due("shows(0, 0, 6)", x.shows(0, 0, 6), 19);
        Check.due("shows(0, 0, 1)", x.shows(0, 0, 1), 18);
        Check.refused("no weight left", Check.STATE, () -> x.shows(0, 0, 1));
        Check.refused("no weight from the first", Check.STATE, () -> x.shows(1, 0, 2));
        Check.refused("shows(3, 0, 1)", Check.NO_SUCH, () -> x.shows(3, 0, 1));
        Check.refused("shows(0, 2, 1)", Check.NO_SUCH, () -> x.shows(0, 2, 1));
        Check.refused("shows(0, 2, 7)", Check.NO_SUCH, () -> x.shows(0, 2, 7));
        Check.refused("shows(0, 0, 0)", Check.ARGUMENT, () -> x.shows(0, 0, 0));
        Check.refused("shows(0, 0, 7)", Check.ARGUMENT, () -> x.shows(0, 0, 7));
        x.rain(20);
        Check.refused("shows of a gone one", Check.STATE, () -> x.shows(0, 0, 3));
        Check.refused("no face of a gone one", Check.ARGUMENT, () -> x.shows(0, 0, 7));
        Check.due("throws", x.count(4), 2);
    }

    private static void wearAndHeat() {
        SugarDice x = Check.laid("die 20 20 20 20 20 20;die 5 0 0 0 0 0 salt;hand 7;");
        Check.due("heat 7", x.shows(0, 0, 1), 113);
        Check.due("heat 8", x.shows(0, 0, 1), 105);
        Check.due("heat then", x.hand(0, 0), 9);
        Check.due("not below 0", x.shows(0, 0, 1), 100);
        Check.due("9 at most", x.hand(0, 0), 9);
        Check.due("salt stays", x.shows(1, 0, 1), 5);
        SugarDice y = Check.laid("die 5 0 0 0 0 0 salt;hand 3;");
        y.shows(0, 0, 1);
        Check.due("salt heats hands, too", y.hand(0, 0), 4);
    }

    private static void back() {
        SugarDice x = Check.laid(TABLE);
        x.lot(4);
        String first = Check.state(x);
        x.shows(0, 0, 6);
        x.fan(0);
        x.ants(2);
        String second = Check.state(x);
        x.shows(2, 1, 3);
        x.rain(1);
        x.salts(0);
        x.lot(9);
        String third = Check.state(x);
        x.cast(1, 1, 5);
        x.ants(7);
        Check.due("back(0)", x.back(0), 3);
        Check.due("back(0) leaves what ants ate", x.die(2, 7) < 6, true);
        Check.refused("back(-1)", Check.ARGUMENT, () -> x.back(-1));
        Check.refused("back(4)", Check.ARGUMENT, () -> x.back(4));
        Check.due("back(1)", x.back(1), 2);
        Check.sameState("back(1)", x, third);
        Check.due("back(1) again", x.back(1), 1);
        Check.sameState("back(1) again", x, second);
        x.shows(0, 1, 4);
        Check.due("back(2)", x.back(2), 0);
        Check.sameState("back(2)", x, first);
        Check.refused("back(1) of none", Check.ARGUMENT, () -> x.back(1));
    }

    private static void past() {
        SugarDice x = Check.laid(TABLE);
        x.shows(0, 1, 6);
        x.shows(2, 0, 3);
        long[] want = {0, 1, 6, 2, 0, 3};
        for (int k = 0; k < 2; k++) {
            for (int what = 0; what < 3; what++) {
                Check.due("past(" + k + ", " + what + ")", x.past(k, what), want[3 * k + what]);
            }
        }
        SugarDice five = Check.laid("die 1 0 0 0 0 1 salt;".repeat(5) + "hand 0;hand 0;hand 0;hand 0;");
        five.tray(0, 1, 20);
        for (int i = 0; i < 20; i++) {
            five.write(0, i, 100 * (i % 5) + 10 * (i / 5) + (i % 3 == 0 ? 6 : 1));
        }
        Check.due("twenty told ones", five.perform(0), 20);
        for (int i = 0; i < 20; i++) {
            Check.due("die of told " + i, five.past(i, 0), i % 5);
            Check.due("hand of told " + i, five.past(i, 1), i / 5);
            Check.due("face of told " + i, five.past(i, 2), i % 3 == 0 ? 6 : 1);
        }
        Check.refused("past(2, 0)", Check.NO_SUCH, () -> x.past(2, 0));
        Check.refused("past(-1, 3)", Check.NO_SUCH, () -> x.past(-1, 3));
        Check.refused("past(0, 3)", Check.ARGUMENT, () -> x.past(0, 3));
        Check.refused("past(0, -1)", Check.ARGUMENT, () -> x.past(0, -1));
    }

    /** An evening is told anew with casts, whose one draw is the third of each turn. */
    private static void evenings() {
        for (int seed = -3; seed <= 300; seed += 43) {
            for (int times = 1; times <= 40; times += 13) {
                SugarDice x = Check.laid(TABLE);
                SugarDice y = Check.laid(TABLE);
                int at = seed;
                int thrown = 0;
                for (int i = 0; i < times; i++) {
                    int d = drawn(at, 1) % 3;
                    int h = drawn(at, 2) % 2;
                    at = seedBehind(at, 2);
                    if (y.die(d, 9) == 0) {
                        y.cast(d, h, at);
                        at = seedBehind(at, 1);
                        thrown++;
                    }
                }
                Check.due("evening(" + seed + ", " + times + ")", x.evening(seed, times), thrown);
                Check.sameState("behind evening(" + seed + ", " + times + ")", x, Check.state(y));
            }
        }
        SugarDice x = Check.laid("die 1 1 1 1 1 1 salt;hand 0;");
        Check.due("40 of an evening", x.evening(1, 40), 40);
        Check.due("20 of an evening, then 60", x.evening(2, 40), 20);
        Check.due("60", x.count(4), 60);
        Check.refused("evening(1, 0)", Check.ARGUMENT, () -> x.evening(1, 0));
        Check.refused("evening(1, 41)", Check.ARGUMENT, () -> x.evening(1, 41));
        SugarDice noHands = Check.laid("die 1 1 1 1 1 1;");
        Check.refused("no hands", Check.STATE, () -> noHands.evening(1, 1));
        Check.refused("no hands, no times", Check.ARGUMENT, () -> noHands.evening(1, 0));
        SugarDice noDice = Check.laid("hand 1;");
        Check.refused("no dice", Check.STATE, () -> noDice.evening(1, 1));
    }

    private static void why(long told, int kind) {
        SugarDice x = Check.laid(TABLE + "die 1 0 0 0 0 0;");
        x.shows(3, 0, 1);
        Check.fill(x, 0, 3, 6, told, 2);
        Check.due("place of " + told, x.judge(0, 0), kind == 0 ? -1 : 1);
        Check.due("why of " + told, x.judge(0, 1), kind);
        Check.due("thrown with " + told, x.perform(0), kind == 0 ? 3 : 1);
    }

    private static void judged() {
        why(6, 0);
        why(16, 0);
        why(203, 0);
        why(20, 1);
        why(0, 1);
        why(7, 1);
        why(26, 1);
        why(96, 1);
        why(401, 1);
        why(501, 1);
        why(-1, 1);
        why(-94, 1);
        why(1006, 1);
        why(4294967302L, 1);
        why(Long.MIN_VALUE, 1);
        why(Long.MAX_VALUE, 1);
        why(301, 2);
        why(306, 2);
        why(307, 1);
        why(103, 3);
        why(201, 3);
        SugarDice x = Check.laid(TABLE);
        Check.fill(x, 1, 1, 6, 6, 16, 203);
        String was = Check.state(x);
        Check.due("all of them", x.judge(1, 0), -1);
        Check.due("all of them, why", x.judge(1, 1), 0);
        Check.due("all of them, totals", x.judge(1, 2), 36 - 2 - 3 - 0 - 4);
        Check.sameState("judging changes nothing", x, was);
        x.shows(1, 1, 1);
        x.shows(1, 1, 6);
        was = Check.state(x);
        Check.due("wear in a row", x.judge(1, 0), -1);
        Check.fill(x, 1, 1, 1, 1);
        Check.due("a face worn away", x.judge(1, 1), 3);
        Check.due("its place", x.judge(1, 0), 1);
        Check.due("totals till there", x.judge(1, 2), 35);
        Check.sameState("judging changes nothing, again", x, was);
        Check.due("throws stay for back", x.back(2), 0);
        x.tray(2, 0, 0);
        Check.due("none to judge", x.judge(2, 0), -1);
        Check.due("none to judge, totals", x.judge(2, 2), 36);
        Check.refused("judge(4, 0)", Check.NO_SUCH, () -> x.judge(4, 0));
        Check.refused("judge(-1, 9)", Check.NO_SUCH, () -> x.judge(-1, 9));
        Check.refused("judge(3, 9)", Check.STATE, () -> x.judge(3, 9));
        Check.refused("judge(1, 3)", Check.ARGUMENT, () -> x.judge(1, 3));
        Check.refused("judge(1, -1)", Check.ARGUMENT, () -> x.judge(1, -1));
    }

    private static void performed() {
        SugarDice x = Check.laid(TABLE);
        SugarDice y = Check.laid(TABLE);
        Check.fill(x, 0, 2, 6, 113 - 2, 203, 216, 1, 1, 6);
        y.shows(0, 0, 6);
        y.shows(1, 1, 1);
        y.shows(2, 0, 3);
        y.shows(2, 1, 6);
        y.shows(0, 0, 1);
        Check.due("till a face is worn away", x.perform(0), 5);
        Check.sameState("as told one by one", x, Check.state(y));
        x.tray(1, 0, 0);
        Check.due("none", x.perform(1), 0);
        Check.refused("perform(4)", Check.NO_SUCH, () -> x.perform(4));
        Check.refused("perform(3)", Check.STATE, () -> x.perform(3));
        SugarDice z = Check.laid("die 1 0 0 0 0 0 salt;hand 0;");
        z.tray(0, 0, 30);
        for (int i = 0; i < 30; i++) {
            z.write(0, i, 1);
        }
        Check.due("30", z.perform(0), 30);
        z.shows(0, 0, 1);
        Check.due("29 more, then 60", z.perform(0), 29);
        Check.due("60", z.count(4), 60);
    }
}
