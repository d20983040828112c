/** Boundaries of wear, draws and told throws (Terms) and of promises 8 to 14, each on both sides. */
public final class BoundsThrowsTest {
    private static final String SIX = "die 1 2 3 4 5 6;";

    public static void main(String[] args) {
        wearIsNotBelow0();
        heatIs9AtMost();
        saltDoesNotWear();
        aDrawGoesByTheTotal();
        aDrawHas16Bits();
        facesWithoutWeightAreNotDrawn();
        promise8Cast();
        promise8TillGone();
        promise8SixtyAtMost();
        promise9Shows();
        promise9TillGone();
        promise9SixtyAtMost();
        promise10Back();
        promise10AllThatCameSince();
        promise10SixtyBack();
        promise11Past();
        promise12Evening();
        promise12NoFurtherDraw();
        promise12TillSixty();
        promise13Judge();
        promise13Kinds();
        promise13LeastKinds();
        promise13Places();
        promise13AsIfThrown();
        promise14Perform();
        promise14TillOneCantBe();
        promise14EveryNumber();
        Check.end();
    }

    /** The seed whose first draw is told: the step before it, by the multiplier's inverse. */
    static int seedFor(int draw, int lowBits) {
        int inverse = 1;
        for (int i = 0; i < 5; i++) {
            inverse *= 2 - 1103515245 * inverse;
        }
        return inverse * ((draw << 16 | lowBits) - 12345);
    }

    /** "the WEIGHT of that face is HEAT less (not below 0)" */
    private static void wearIsNotBelow0() {
        for (int heat = 0; heat <= 9; heat++) {
            for (int weight = 1; weight <= 20; weight++) {
                SugarDice x = Check.laid("die 0 " + weight + " 0 0 3 0;hand " + heat + ";");
                int left = weight > heat ? weight - heat : 0;
                String of = " of " + weight + " by heat " + heat;
                Check.due("shows" + of, x.shows(0, 0, 2), left + 3);
                Check.due("weight" + of, x.die(0, 2), left);
                Check.due("another weight" + of, x.die(0, 5), 3);
            }
        }
    }

    /** "HEAT of the HAND is 1 more (9 at most)" */
    private static void heatIs9AtMost() {
        for (int heat = 0; heat <= 9; heat++) {
            SugarDice x = Check.laid(SIX + "hand " + heat + ";hand 3;");
            x.shows(0, 0, 6);
            Check.due("heat behind " + heat, x.hand(0, 0), heat < 9 ? heat + 1 : 9);
            Check.due("the other one's", x.hand(1, 0), 3);
        }
        SugarDice x = Check.laid("die 1 0 0 0 0 0 salt;hand 8;");
        x.shows(0, 0, 1);
        Check.due("8, then", x.hand(0, 0), 9);
        x.shows(0, 0, 1);
        Check.due("9, then", x.hand(0, 0), 9);
    }

    /** "if the DIE is no salt": salt keeps its weight, but the hand grows hot. */
    private static void saltDoesNotWear() {
        SugarDice x = Check.laid("die 1 0 0 0 0 0 salt;die 1 0 0 0 0 0;hand 9;hand 1;");
        Check.due("salt by heat 9", x.shows(0, 0, 1), 1);
        Check.due("salt by heat 1", x.shows(0, 1, 1), 1);
        Check.due("the hand's heat", x.hand(1, 0), 2);
        Check.due("sugar", x.shows(1, 1, 1), 0);
    }

    private static void drawn(String table, int draw, int face) {
        for (int lowBits : new int[] {0, 1, 12344, 12345, 12346, 0x8000, 0xffff}) {
            SugarDice x = Check.laid(table + "hand 0;");
            Check.due("draw " + draw + " of " + table, x.cast(0, 0, seedFor(draw, lowBits)), face);
        }
    }

    /** "the least one so that the WEIGHTS up to it together are more than DRAW modulo TOTAL" */
    private static void aDrawGoesByTheTotal() {
        int[] lastOfFace = {0, 2, 5, 9, 14, 20};
        for (int face = 1; face <= 6; face++) {
            drawn(SIX, lastOfFace[face - 1], face);
            drawn(SIX, lastOfFace[face - 1] + 1, face < 6 ? face + 1 : 1);
            drawn(SIX, 21 + lastOfFace[face - 1], face);
            drawn("die 20 20 20 20 20 20;", 20 * face - 1, face);
            drawn("die 20 20 20 20 20 20;", 20 * face, face < 6 ? face + 1 : 1);
        }
        for (int draw : new int[] {0, 1, 32767, 32768, 65535}) {
            drawn("die 0 0 0 1 0 0;", draw, 4);
        }
    }

    /** "x becomes 1103515245 x + 12345, it is x >>> 16": never below 0, 65535 at most. */
    private static void aDrawHas16Bits() {
        drawn(SIX, 65535, 6);
        drawn(SIX, 65520, 1);
        drawn(SIX, 65519, 6);
        drawn(SIX, 32768, 4);
        drawn(SIX, 32767, 4);
        drawn("die 20 20 20 20 20 20;", 65535, 1);
        drawn("die 20 20 20 20 20 20;", 65519, 6);
        int[] seeds = {0, 1, -1, Integer.MAX_VALUE, Integer.MIN_VALUE};
        int[] draws = {0, 16838, 48697, 15929, 32768};
        for (int i = 0; i < seeds.length; i++) {
            int face = draws[i] % 2 == 0 ? 2 : 5;
            int seed = seeds[i];
            Bounds.taken("cast by " + seed, Bounds.of("die 0 1 0 0 1 0;hand 0;"), face, x -> x.cast(0, 0, seed));
        }
    }

    private static void facesWithoutWeightAreNotDrawn() {
        String table = "die 0 0 4 0 0 4;";
        drawn(table, 0, 3);
        drawn(table, 3, 3);
        drawn(table, 4, 6);
        drawn(table, 7, 6);
        drawn(table, 8, 3);
        drawn("die 0 0 0 0 0 1;", 0, 6);
        drawn("die 1 0 0 0 0 0;", 65535, 1);
        drawn("die 1 0 0 0 0 1;", 1, 6);
        drawn("die 1 0 0 0 0 1;", 2, 1);
    }

    /** "NoSuchElementException: the DIE, HAND; IllegalStateException: it is GONE, there are 60" */
    private static void promise8Cast() {
        Bounds.outside("cast(.., 0, 1)", Bounds.FULL, Check.NO_SUCH, (x, d) -> x.cast(d, 0, 1), -1, 3, 4, 5);
        Bounds.outside("cast(0, .., 1)", Bounds.FULL, Check.NO_SUCH, (x, h) -> x.cast(0, h, 1), -1, 2, 3, 4);
        Bounds.refused("cast of a gone one", Bounds.FULL, Check.STATE, x -> x.cast(2, 0, 1));
        Bounds.outside("cast of a gone one by no hand", Bounds.FULL, Check.NO_SUCH, (x, h) -> x.cast(2, h, 1), -1, 2);
        Bounds.outside("cast of no die by no hand", Bounds.FULL, Check.NO_SUCH, (x, d) -> x.cast(d, 2, 1), -1, 3);
        Bounds.outside("cast without hands", Bounds.NO_HANDS, Check.NO_SUCH, (x, h) -> x.cast(0, h, 1), -1, 0);
        Bounds.outside("cast without dice", Bounds.NO_DICE, Check.NO_SUCH, (x, d) -> x.cast(d, 0, 1), -1, 0);
        Bounds.taken("the first die by the last hand", Bounds.FULL, 1, x -> x.cast(0, 1, seedFor(0, 0)));
        Bounds.taken("the last die by the first hand", Bounds.of(SIX.repeat(5) + "hand 0;".repeat(4)), 1,
            x -> x.cast(4, 0, seedFor(0, 0)));
        Bounds.taken("the last die by the last hand", Bounds.of(SIX.repeat(5) + "hand 0;".repeat(4)), 6,
            x -> x.cast(4, 3, seedFor(20, 0)));
    }

    private static void promise8TillGone() {
        SugarDice x = Check.laid("die 0 0 0 0 2 0;hand 1;hand 1;");
        Check.due("a weight of 2", x.cast(0, 0, 1), 5);
        Check.due("a weight of 1", x.cast(0, 1, 1), 5);
        Check.refused("a weight of 0", Check.STATE, () -> x.cast(0, 0, 1));
        Check.due("throws", x.count(4), 2);
    }

    /** "THROWS are noted, 60 at most." */
    private static void promise8SixtyAtMost() {
        Bounds.Setup fiftyNine = () -> {
            SugarDice x = Bounds.SIXTY.make();
            x.back(1);
            return x;
        };
        Bounds.taken("a 60th cast", fiftyNine, 1, x -> x.cast(0, 0, seedFor(0, 0)));
        Bounds.refused("a 61st cast", Bounds.SIXTY, Check.STATE, x -> x.cast(0, 0, 1));
        Bounds.outside("a 61st cast of no die", Bounds.SIXTY, Check.NO_SUCH, (x, d) -> x.cast(d, 0, 1), -1, 1);
        Bounds.outside("a 61st cast by no hand", Bounds.SIXTY, Check.NO_SUCH, (x, h) -> x.cast(0, h, 1), -1, 1);
        SugarDice x = fiftyNine.make();
        Check.due("59", x.count(4), 59);
        x.cast(0, 0, 1);
        Check.due("60", x.count(4), 60);
    }

    /** "IllegalArgumentException: no face; IllegalStateException: it is GONE, has no WEIGHT there, there are 60" */
    private static void promise9Shows() {
        Bounds.outside("shows(.., 0, 1)", Bounds.FULL, Check.NO_SUCH, (x, d) -> x.shows(d, 0, 1), -1, 3, 4, 5);
        Bounds.outside("shows(0, .., 1)", Bounds.FULL, Check.NO_SUCH, (x, h) -> x.shows(0, h, 1), -1, 2, 3, 4);
        Bounds.outside("shows(.., 0, 7)", Bounds.FULL, Check.NO_SUCH, (x, d) -> x.shows(d, 0, 7), -1, 3);
        Bounds.outside("shows(0, .., 0)", Bounds.FULL, Check.NO_SUCH, (x, h) -> x.shows(0, h, 0), -1, 2);
        Bounds.outside("shows(2, .., 3) of a gone one", Bounds.FULL, Check.NO_SUCH, (x, h) -> x.shows(2, h, 3), -1, 2);
        Bounds.outside("shows(0, 0, ..)", Bounds.FULL, Check.ARGUMENT, (x, face) -> x.shows(0, 0, face), -1, 0, 7);
        Bounds.outside("shows(2, 0, ..) of a gone one", Bounds.FULL, Check.ARGUMENT, (x, face) -> x.shows(2, 0, face), 0, 7);
        for (int face = 1; face <= 6; face++) {
            int shown = face;
            int left = face > 4 ? 17 : 21 - face;
            Bounds.taken("shows(0, 0, " + face + ")", Bounds.FULL, left, x -> x.shows(0, 0, shown));
            Bounds.refused("shows(2, 0, " + face + ") of a gone one", Bounds.FULL, Check.STATE, x -> x.shows(2, 0, shown));
        }
        for (int face = 2; face <= 5; face++) {
            int shown = face;
            Bounds.refused("shows(1, 0, " + face + ") without weight", Bounds.FULL, Check.STATE, x -> x.shows(1, 0, shown));
        }
        Bounds.taken("shows(1, 0, 1)", Bounds.FULL, 7, x -> x.shows(1, 0, 1));
        Bounds.taken("shows(1, 0, 6)", Bounds.FULL, 7, x -> x.shows(1, 0, 6));
    }

    private static void promise9TillGone() {
        SugarDice x = Check.laid("die 1 0 0 0 0 2;hand 1;hand 1;");
        Check.due("a weight of 2", x.shows(0, 0, 6), 2);
        Check.due("a weight of 1", x.shows(0, 1, 6), 1);
        Check.refused("a weight of 0", Check.STATE, () -> x.shows(0, 0, 6));
        Check.due("the last weight: a total of 0 then", x.shows(0, 0, 1), 0);
        Check.refused("gone", Check.STATE, () -> x.shows(0, 0, 1));
        Check.due("throws", x.count(4), 3);
    }

    private static void promise9SixtyAtMost() {
        SugarDice x = Bounds.SIXTY.make();
        x.back(1);
        Check.due("a 60th", x.shows(0, 0, 6), 7);
        Check.due("60", x.count(4), 60);
        Bounds.refused("a 61st", Bounds.SIXTY, Check.STATE, y -> y.shows(0, 0, 6));
        Bounds.outside("a 61st of no face", Bounds.SIXTY, Check.ARGUMENT, (y, face) -> y.shows(0, 0, face), 0, 7);
        Bounds.outside("a 61st by no hand", Bounds.SIXTY, Check.NO_SUCH, (y, h) -> y.shows(0, h, 6), -1, 1);
    }

    /** "(n 0: nothing happens)"; "IllegalArgumentException: n is below 0 or above THROWS" */
    private static void promise10Back() {
        Bounds.outside("back of 3", Bounds.FULL, Check.ARGUMENT, (x, n) -> x.back(n), -1, 4);
        Bounds.outside("back of none", Bounds.NO_HANDS, Check.ARGUMENT, (x, n) -> x.back(n), -1, 1);
        Bounds.outside("back of 60", Bounds.SIXTY, Check.ARGUMENT, (x, n) -> x.back(n), -1, 61);
        Bounds.asked("back(0) of 3", Bounds.FULL, 3, x -> x.back(0));
        Bounds.asked("back(0) of none", Bounds.NO_HANDS, 0, x -> x.back(0));
        Bounds.asked("back(0) of 60", Bounds.SIXTY, 60, x -> x.back(0));
        for (int n = 1; n <= 3; n++) {
            int many = n;
            Bounds.taken("back(" + n + ") of 3", Bounds.FULL, 3 - n, x -> x.back(many));
        }
        Bounds.taken("back(60) of 60", Bounds.SIXTY, 0, x -> x.back(60));
        SugarDice x = Bounds.FULL.make();
        x.rain(1);
        x.fan(0);
        String was = Check.state(x);
        x.back(0);
        Check.sameState("back(0) leaves what came since the latest throw", x, was);
    }

    /** "All is as it was ahead of the n-th latest THROW": what each call between throws did is undone. */
    private static void promise10AllThatCameSince() {
        Bounds.On[] since = {x -> x.ants(3), x -> x.rain(2), x -> x.fan(0), x -> x.fan(1), x -> x.lot(77),
            x -> x.salts(0) ? 1 : 0, x -> x.evening(3, 5), x -> x.perform(0), x -> x.cast(0, 0, 9)};
        for (int i = 0; i < since.length; i++) {
            SugarDice x = Bounds.FULL.make();
            String ahead = Check.state(x);
            x.shows(0, 1, 6);
            String behind = Check.state(x);
            since[i].answer(x);
            x.shows(1, 0, 6);
            since[i].answer(x);
            int latest = x.count(4);
            x.back(latest - 4);
            if (i < 6) {
                Check.due("throws between, " + i, latest, 5);
            } else {
                Check.sameState("back to just behind, " + i, x, behind);
            }
            x.back(1);
            Check.sameState("back by call " + i, x, ahead);
        }
        SugarDice x = Bounds.FULL.make();
        String ahead = Check.state(x);
        x.shows(0, 1, 6);
        x.rain(20);
        x.salts(1);
        x.lot(3);
        Check.due("back(1) of all at once", x.back(1), 3);
        Check.sameState("back(1) of all at once", x, ahead);
    }

    private static SugarDice castTo(int many) {
        SugarDice x = Check.laid("die 20 20 20 20 20 20;die 6 0 0 0 0 1 salt;hand 0;hand 1;");
        for (int k = 0; k < many; k++) {
            x.cast(k < 12 ? 0 : 1, k % 2, k);
        }
        return x;
    }

    private static void promise10SixtyBack() {
        for (int k = 0; k < 60; k++) {
            String ahead = Check.state(castTo(k));
            SugarDice atOnce = castTo(60);
            Check.due("back to " + k, atOnce.back(60 - k), k);
            Check.sameState("back to " + k, atOnce, ahead);
            SugarDice stepwise = castTo(60);
            for (int left = 59; left >= k; left--) {
                Check.due("step by step to " + left, stepwise.back(1), left);
            }
            Check.sameState("step by step to " + k, stepwise, ahead);
        }
    }

    /** "NoSuchElementException: no such THROW; IllegalArgumentException: another what" */
    private static void promise11Past() {
        int[][] want = {{2, 0, 3}, {0, 1, 6}, {1, 0, 1}};
        for (int k = 0; k < 3; k++) {
            int one = k;
            for (int what = 0; what <= 2; what++) {
                int asked = what;
                Bounds.asked("past(" + k + ", " + what + ")", Bounds.FULL, want[k][what], x -> x.past(one, asked));
            }
            Bounds.outside("past(" + k + ", ..)", Bounds.FULL, Check.ARGUMENT, (x, what) -> x.past(one, what), -1, 3);
        }
        Bounds.outside("past(.., 0)", Bounds.FULL, Check.NO_SUCH, (x, k) -> x.past(k, 0), -1, 3);
        Bounds.outside("past(.., 3)", Bounds.FULL, Check.NO_SUCH, (x, k) -> x.past(k, 3), -1, 3);
        Bounds.outside("past of none", Bounds.NO_HANDS, Check.NO_SUCH, (x, k) -> x.past(k, 0), -1, 0);
        Bounds.outside("past of 60", Bounds.SIXTY, Check.NO_SUCH, (x, k) -> x.past(k, 0), -1, 60);
        Bounds.asked("past(59, 1) of 60", Bounds.SIXTY, 0, x -> x.past(59, 1));
        SugarDice x = Bounds.FULL.make();
        x.back(1);
        Check.refused("past of an undone one", Check.NO_SUCH, () -> x.past(2, 0));
        Check.due("past of the one ahead of it", x.past(1, 2), 6);
    }

    /** "so many times (1 to 40)"; "IllegalArgumentException: how many times; IllegalStateException: no DICE, no HANDS" */
    private static void promise12Evening() {
        Bounds.outside("evening", Bounds.FULL, Check.ARGUMENT, (x, times) -> x.evening(1, times), -1, 0, 41);
        Bounds.outside("evening at 60", Bounds.SIXTY, Check.ARGUMENT, (x, times) -> x.evening(1, times), -1, 0, 41);
        Bounds.outside("evening of a new one", Bounds.NEW, Check.ARGUMENT, (x, times) -> x.evening(1, times), 0, 41);
        Bounds.outside("evening without hands", Bounds.NO_HANDS, Check.ARGUMENT, (x, times) -> x.evening(1, times), 0, 41);
        Bounds.outside("evening without dice", Bounds.NO_DICE, Check.ARGUMENT, (x, times) -> x.evening(1, times), 0, 41);
        for (int times : new int[] {1, 40}) {
            Bounds.refused("an evening of a new one, " + times, Bounds.NEW, Check.STATE, x -> x.evening(1, times));
            Bounds.refused("an evening without hands, " + times, Bounds.NO_HANDS, Check.STATE, x -> x.evening(1, times));
            Bounds.refused("an evening without dice, " + times, Bounds.NO_DICE, Check.STATE, x -> x.evening(1, times));
            Bounds.taken("an evening of one die, " + times, Bounds.of("die 1 0 0 0 0 0 salt;hand 0;"), times,
                x -> x.evening(1, times));
        }
        Bounds.Setup allGone = () -> {
            SugarDice x = Check.laid("die 1 0 0 0 0 0;die 0 0 0 0 0 1;hand 0;");
            x.rain(1);
            return x;
        };
        Bounds.asked("an evening when all are gone", allGone, 0, x -> x.evening(1, 40));
    }

    /** "thrown, if it isn't GONE and there aren't 60 (no further DRAW else)", told anew with casts. */
    private static void promise12NoFurtherDraw() {
        String table = "die 1 2 3 4 5 6;die 1 0 0 0 0 0;die 9 9 9 9 9 9;hand 0;hand 3;";
        int passedOver = 0;
        for (int seed = 1; seed <= 40; seed++) {
            SugarDice x = Check.laid(table);
            SugarDice y = Check.laid(table);
            x.shows(1, 1, 1);
            y.shows(1, 1, 1);
            int at = seed;
            int made = 0;
            for (int i = 0; i < 8; i++) {
                at = 1103515245 * at + 12345;
                int d = (at >>> 16) % 3;
                at = 1103515245 * at + 12345;
                int h = (at >>> 16) % 2;
                if (d == 1) {
                    passedOver++;
                } else if (y.die(d, 9) == 0) {
                    y.cast(d, h, at);
                    at = 1103515245 * at + 12345;
                    made++;
                }
            }
            Check.due("an evening with a gone die, " + seed, x.evening(seed, 8), made);
            Check.sameState("behind an evening with a gone die, " + seed, x, Check.state(y));
        }
        Check.due("gone dice were passed over", passedOver > 0, true);
    }

    private static void promise12TillSixty() {
        Bounds.asked("an evening at 60", Bounds.SIXTY, 0, x -> x.evening(1, 40));
        for (int room = 1; room <= 41; room += 4) {
            SugarDice x = Bounds.SIXTY.make();
            x.back(room);
            Check.due("an evening with room for " + room, x.evening(3, 40), Math.min(room, 40));
            Check.due("throws then", x.count(4), Math.min(60, 60 - room + 40));
        }
    }

    /** "what 0: the first place that can't be (NONE), 1: why (0), 2: all TOTALS together then" and what is refused */
    private static void promise13Judge() {
        Bounds.outside("judge(.., 0)", Bounds.FULL, Check.NO_SUCH, (x, tray) -> x.judge(tray, 0), -1, 4);
        Bounds.outside("judge(.., 3)", Bounds.FULL, Check.NO_SUCH, (x, tray) -> x.judge(tray, 3), -1, 4);
        Bounds.refused("judge(3, 0) of a missing one", Bounds.FULL, Check.STATE, x -> x.judge(3, 0));
        Bounds.outside("judge(3, ..) of a missing one", Bounds.FULL, Check.STATE, (x, what) -> x.judge(3, what), -1, 3);
        for (int tray = 0; tray <= 2; tray++) {
            int told = tray;
            Bounds.outside("judge(" + tray + ", ..)", Bounds.FULL, Check.ARGUMENT, (x, what) -> x.judge(told, what), -1, 3);
        }
        Bounds.asked("judge(0, 0)", Bounds.FULL, -1, x -> x.judge(0, 0));
        Bounds.asked("judge(0, 1)", Bounds.FULL, 0, x -> x.judge(0, 1));
        Bounds.asked("judge(0, 2)", Bounds.FULL, 28 - 4 - 1, x -> x.judge(0, 2));
        Bounds.asked("judge(2, 0) of no numbers", Bounds.FULL, -1, x -> x.judge(2, 0));
        Bounds.asked("judge(2, 1) of no numbers", Bounds.FULL, 0, x -> x.judge(2, 1));
        Bounds.asked("judge(2, 2) of no numbers", Bounds.FULL, 28, x -> x.judge(2, 2));
    }

    private static Bounds.Setup told(Bounds.Setup setup, long... numbers) {
        return () -> {
            SugarDice x = setup.make();
            Check.fill(x, 0, 3, numbers);
            return x;
        };
    }

    private static void why(Bounds.Setup setup, long told, int kind) {
        String of = " of " + told;
        Bounds.asked("place" + of, told(setup, told), kind == 0 ? -1 : 0, x -> x.judge(0, 0));
        Bounds.asked("why" + of, told(setup, told), kind, x -> x.judge(0, 1));
        Bounds.taken("performed" + of, told(setup, told), kind == 0 ? 1 : 0, x -> x.perform(0));
    }

    /** "1 no such DIE, HAND, face (1 to 6); 2 the DIE is GONE; 3 that face has no WEIGHT; 4 there are 60 THROWS." */
    private static void promise13Kinds() {
        why(Bounds.FULL, 0, 1);
        why(Bounds.FULL, 1, 0);
        why(Bounds.FULL, 6, 0);
        why(Bounds.FULL, 7, 1);
        why(Bounds.FULL, 9, 1);
        why(Bounds.FULL, 10, 1);
        why(Bounds.FULL, 11, 0);
        why(Bounds.FULL, 16, 0);
        why(Bounds.FULL, 17, 1);
        why(Bounds.FULL, 21, 1);
        why(Bounds.FULL, 91, 1);
        why(Bounds.FULL, 100, 1);
        why(Bounds.FULL, 101, 0);
        why(Bounds.FULL, 102, 3);
        why(Bounds.FULL, 116, 0);
        why(Bounds.FULL, 115, 3);
        why(Bounds.FULL, 203, 2);
        why(Bounds.FULL, 301, 1);
        why(Bounds.FULL, 401, 1);
        why(Bounds.FULL, 501, 1);
        why(Bounds.FULL, 1001, 1);
        for (long told : new long[] {-1, -6, -94, -99, -100, -101, Long.MIN_VALUE, Long.MAX_VALUE, 4294967297L, -4294967295L, 65537}) {
            why(Bounds.FULL, told, 1);
        }
        Bounds.Setup most = Bounds.of(SIX.repeat(5) + "hand 0;".repeat(4));
        why(most, 436, 0);
        why(most, 437, 1);
        why(most, 441, 1);
        why(most, 431, 0);
        why(most, 430, 1);
        why(most, 501, 1);
        why(Bounds.SIXTY, 1, 4);
        why(Bounds.NEW, 1, 1);
        why(Bounds.NO_HANDS, 1, 1);
        why(Bounds.NO_DICE, 1, 1);
    }

    /** "It can't be, the least of": each kind ahead of the next ones. */
    private static void promise13LeastKinds() {
        Bounds.Setup goneAtSixty = () -> {
            SugarDice x = Check.laid("die 6 0 0 0 0 1 salt;die 0 0 1 0 0 0;hand 2;");
            x.shows(1, 0, 3);
            for (int i = 0; i < 59; i++) {
                x.shows(0, 0, 1);
            }
            return x;
        };
        why(goneAtSixty, 1, 4);
        why(goneAtSixty, 2, 3);
        why(goneAtSixty, 103, 2);
        why(goneAtSixty, 101, 2);
        why(goneAtSixty, 7, 1);
        why(goneAtSixty, 113, 1);
        why(goneAtSixty, 201, 1);
        why(Bounds.FULL, 201, 2);
        why(Bounds.FULL, 207, 1);
        why(Bounds.FULL, 223, 1);
        why(Bounds.FULL, 122, 1);
    }

    private static long[] row(int many, int bad, long told) {
        long[] numbers = new long[many];
        for (int i = 0; i < many; i++) {
            numbers[i] = i == bad ? told : 101;
        }
        return numbers;
    }

    /** The first place that can't be: the first, the last, of a full tray, and with another one behind it. */
    private static void promise13Places() {
        for (int bad : new int[] {0, 1, 15, 28, 29}) {
            Bounds.asked("place " + bad, told(Bounds.FULL, row(30, bad, 102)), bad, x -> x.judge(0, 0));
            Bounds.asked("why at " + bad, told(Bounds.FULL, row(30, bad, 102)), 3, x -> x.judge(0, 1));
            Bounds.taken("performed to " + bad, told(Bounds.FULL, row(30, bad, 102)), bad, x -> x.perform(0));
        }
        Bounds.asked("none of 30", told(Bounds.FULL, row(30, -1, 0)), -1, x -> x.judge(0, 0));
        Bounds.taken("all of 30", told(Bounds.FULL, row(30, -1, 0)), 30, x -> x.perform(0));
        Bounds.asked("two that can't be", told(Bounds.FULL, 101, 203, 7, 101), 1, x -> x.judge(0, 0));
        Bounds.asked("why the first of two", told(Bounds.FULL, 101, 203, 7, 101), 2, x -> x.judge(0, 1));
        Bounds.Setup roomForOne = () -> {
            SugarDice x = Bounds.SIXTY.make();
            x.back(1);
            return x;
        };
        Bounds.asked("room for one of two", roomForOne, 1, x -> x.judge(0, 0));
        Bounds.asked("why not the second", roomForOne, 4, x -> x.judge(0, 1));
        Bounds.asked("a 60th alone", told(roomForOne, 6), -1, x -> x.judge(0, 0));
    }

    /** "judged as if thrown": a face worn away on the way, a die gone on the way, a total of them till there. */
    private static void promise13AsIfThrown() {
        Bounds.Setup two = Bounds.of("die 2 0 0 0 0 5;die 0 0 3 0 0 0;hand 1;");
        Bounds.asked("worn away behind two", told(two, 1, 1, 1), 2, x -> x.judge(0, 0));
        Bounds.asked("why", told(two, 1, 1, 1), 3, x -> x.judge(0, 1));
        Bounds.asked("totals till there", told(two, 1, 1, 1), 8, x -> x.judge(0, 2));
        Bounds.asked("worn to its last grain", told(two, 1, 1), -1, x -> x.judge(0, 0));
        Bounds.asked("gone behind two", told(two, 103, 103, 103), 2, x -> x.judge(0, 0));
        Bounds.asked("why", told(two, 103, 103, 103), 2, x -> x.judge(0, 1));
        Bounds.asked("totals till there", told(two, 103, 103, 103), 7, x -> x.judge(0, 2));
        Bounds.asked("totals of what can't be", told(two, 7), 10, x -> x.judge(0, 2));
        Bounds.asked("totals of a new one", told(Bounds.NEW, 7), 0, x -> x.judge(0, 2));
    }

    /** "till one can't be: how many were" and what is refused */
    private static void promise14Perform() {
        Bounds.outside("perform", Bounds.FULL, Check.NO_SUCH, (x, tray) -> x.perform(tray), -1, 4);
        Bounds.refused("perform of a missing one", Bounds.FULL, Check.STATE, x -> x.perform(3));
        Bounds.asked("perform of no numbers", Bounds.FULL, 0, x -> x.perform(2));
        Bounds.taken("perform of all", Bounds.FULL, 3, x -> x.perform(0));
        Bounds.asked("perform of one that can't be", told(Bounds.FULL, 7, 6), 0, x -> x.perform(0));
        Bounds.asked("perform at 60", Bounds.SIXTY, 0, x -> x.perform(0));
        for (int room = 0; room <= 3; room++) {
            SugarDice x = Bounds.SIXTY.make();
            x.back(room);
            Check.due("perform with room for " + room, x.perform(0), Math.min(room, 2));
            Check.due("throws then", x.count(4), 60 - room + Math.min(room, 2));
        }
    }

    private static void promise14TillOneCantBe() {
        SugarDice x = told(Bounds.FULL, 6, 15, 203, 101).make();
        SugarDice y = told(Bounds.FULL, 6, 15, 203, 101).make();
        y.shows(0, 0, 6);
        y.shows(0, 1, 5);
        Check.due("two of four", x.perform(0), 2);
        Check.same("as told one by one", Bounds.story(x), Bounds.story(y));
    }

    /** "100 times the DIE, 10 times the HAND, and the face": each of them, of the most dice and hands. */
    private static void promise14EveryNumber() {
        String most = "die 1 1 1 1 1 1;".repeat(5) + "hand 0;".repeat(4);
        for (int told = -20; told <= 620; told++) {
            int d = Math.floorDiv(told, 100);
            int h = Math.floorMod(told, 100) / 10;
            int face = Math.floorMod(told, 10);
            boolean can = d >= 0 && d < 5 && h < 4 && face >= 1 && face <= 6;
            SugarDice x = Check.laid(most);
            Check.fill(x, 2, 1, told);
            Check.due("why of " + told, x.judge(2, 1), can ? 0 : 1);
            Check.due("perform of " + told, x.perform(2), can ? 1 : 0);
            if (can) {
                Check.due("its die", x.past(0, 0), d);
                Check.due("its hand", x.past(0, 1), h);
                Check.due("its face", x.past(0, 2), face);
                Check.due("the die that was thrown", x.die(d, 10), 1);
                Check.due("the hand that threw", x.hand(h, 0), 1);
            }
        }
    }
}
