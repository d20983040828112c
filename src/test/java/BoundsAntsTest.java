/** Boundaries of ants, rain and lots (Terms) and of promises 15 to 21, each on both sides. */
public final class BoundsAntsTest {
    private static final String MOST = "die 20 20 20 20 20 20;";

    public static void main(String[] args) {
        oneIsBehindSix();
        eachDieThatIsNoSaltAndNotGone();
        rainIsNotBelow0();
        promise15Ants();
        promise15TillAllIsEaten();
        promise16Eaten();
        promise16AsAntsWould();
        promise17Lasts();
        promise18LastFace();
        promise18OneGrainIsLeft();
        promise19Rain();
        promise20Fan();
        promise21Lot();
        promise21AsLongAsThereAreSome();
        promise21ByDraws();
        Check.end();
    }

    /** "of the WEIGHT of the face they prefer, if it is 0 of the next face's that isn't (1 is behind 6)" */
    private static void oneIsBehindSix() {
        for (int prefer = 1; prefer <= 6; prefer++) {
            for (int only = 1; only <= 6; only++) {
                SugarDice x = Check.laid("ants " + prefer + ";" + dieOf(only, 2));
                Check.due("one face, " + only + ", they prefer " + prefer, x.ants(1), 1);
                Check.due("it is eaten", x.die(0, only), 1);
                SugarDice all = Check.laid("ants " + prefer + ";die 1 1 1 1 1 1;");
                int minutes = (only - prefer + 6) % 6 + 1;
                all.ants(minutes);
                Check.due("the last eaten is " + only, all.die(0, only), 0);
                Check.due("the next is left", all.die(0, only % 6 + 1), minutes == 6 ? 0 : 1);
            }
        }
        SugarDice x = Check.laid("ants 6;die 3 0 0 0 0 1;");
        x.ants(1);
        Check.due("6 first", x.die(0, 6), 0);
        Check.due("1 not yet", x.die(0, 1), 3);
        x.ants(1);
        Check.due("then 1", x.die(0, 1), 2);
    }

    private static String dieOf(int face, int weight) {
        StringBuilder s = new StringBuilder("die");
        for (int i = 1; i <= 6; i++) {
            s.append(' ').append(i == face ? weight : 0);
        }
        return s.append(';').toString();
    }

    /** "eat 1 of each DIE that is no salt and not GONE" */
    private static void eachDieThatIsNoSaltAndNotGone() {
        Bounds.taken("one of three", Bounds.FULL, 1, x -> x.ants(1));
        Bounds.taken("five", Bounds.of("die 1 2 3 4 5 6;".repeat(5)), 5, x -> x.ants(1));
        Bounds.taken("four and salt", Bounds.of("die 1 2 3 4 5 6;".repeat(4) + "die 1 2 3 4 5 6 salt;"), 4, x -> x.ants(1));
        Bounds.taken("new salt", Bounds.FULL, 0, x -> {
            x.salts(0);
            return x.ants(99);
        });
        Bounds.asked("no dice", Bounds.NO_DICE, 0, x -> x.ants(99));
        Bounds.asked("salt alone", Bounds.SIXTY, 0, x -> x.ants(99));
    }

    /** "RAIN of n: each WEIGHT of DICE that are no salt is n less (not below 0)" */
    private static void rainIsNotBelow0() {
        for (int n = 1; n <= 20; n++) {
            SugarDice x = Check.laid("die 0 1 2 19 20 10;die 0 1 2 19 20 10 salt;");
            int[] weights = {0, 1, 2, 19, 20, 10};
            int lost = 0;
            for (int weight : weights) {
                lost += weight > n ? n : weight;
            }
            Check.due("rain(" + n + ")", x.rain(n), lost);
            for (int face = 1; face <= 6; face++) {
                int weight = weights[face - 1];
                Check.due("weight of " + weight + " behind rain(" + n + ")", x.die(0, face), weight > n ? weight - n : 0);
                Check.due("salt's weight of " + weight, x.die(1, face), weight);
            }
        }
    }

    /** "IllegalArgumentException: it isn't 1 to 99" */
    private static void promise15Ants() {
        Bounds.outside("ants", Bounds.FULL, Check.ARGUMENT, (x, minutes) -> x.ants(minutes), -1, 0, 100);
        Bounds.outside("ants of no dice", Bounds.NEW, Check.ARGUMENT, (x, minutes) -> x.ants(minutes), -1, 0, 100);
        Bounds.taken("ants(1)", Bounds.of(MOST), 1, x -> x.ants(1));
        Bounds.taken("ants(2)", Bounds.of(MOST), 2, x -> x.ants(2));
        Bounds.taken("ants(98)", Bounds.of(MOST), 98, x -> x.ants(98));
        Bounds.taken("ants(99)", Bounds.of(MOST), 99, x -> x.ants(99));
        Bounds.taken("ants(99) of five", Bounds.of(MOST.repeat(5)), 495, x -> x.ants(99));
    }

    private static void promise15TillAllIsEaten() {
        SugarDice x = Check.laid(MOST);
        Check.due("99 of 120", x.ants(99), 99);
        Check.due("20 of 21", x.ants(20), 20);
        Check.due("not gone", x.die(0, 9), 0);
        Check.due("1 of 1", x.ants(99), 1);
        Check.due("gone", x.die(0, 9), 1);
        Check.due("none of none", x.ants(99), 0);
        SugarDice two = Check.laid("die 1 0 0 0 0 0;die 3 0 0 0 0 0;");
        Check.due("one is gone on the way", two.ants(2), 3);
        Check.due("both are gone on the way", two.ants(2), 1);
    }

    /** "IllegalArgumentException: no face, MINUTES aren't 0 to 99" */
    private static void promise16Eaten() {
        Bounds.outside("eaten(.., 1, 1)", Bounds.FULL, Check.NO_SUCH, (x, d) -> x.eaten(d, 1, 1), -1, 3, 4, 5);
        Bounds.outside("eaten(.., 0, 1)", Bounds.FULL, Check.NO_SUCH, (x, d) -> x.eaten(d, 0, 1), -1, 3);
        Bounds.outside("eaten(.., 1, 100)", Bounds.FULL, Check.NO_SUCH, (x, d) -> x.eaten(d, 1, 100), -1, 3);
        for (int d = 0; d < 3; d++) {
            int die = d;
            Bounds.outside("eaten(" + d + ", .., 1)", Bounds.FULL, Check.ARGUMENT, (x, face) -> x.eaten(die, face, 1), -1, 0, 7);
            Bounds.outside("eaten(" + d + ", 1, ..)", Bounds.FULL, Check.ARGUMENT, (x, m) -> x.eaten(die, 1, m), -1, 100);
        }
        Bounds.outside("eaten(0, 7, ..)", Bounds.FULL, Check.ARGUMENT, (x, m) -> x.eaten(0, 7, m), -1, 100);
        Bounds.asked("eaten(0, 6, 0)", Bounds.FULL, 6, x -> x.eaten(0, 6, 0));
        Bounds.asked("eaten(0, 6, 1)", Bounds.FULL, 5, x -> x.eaten(0, 6, 1));
        Bounds.asked("eaten(0, 6, 6)", Bounds.FULL, 0, x -> x.eaten(0, 6, 6));
        Bounds.asked("eaten(0, 1, 6)", Bounds.FULL, 1, x -> x.eaten(0, 1, 6));
        Bounds.asked("eaten(0, 1, 7)", Bounds.FULL, 0, x -> x.eaten(0, 1, 7));
        Bounds.asked("eaten(0, 5, 20)", Bounds.FULL, 1, x -> x.eaten(0, 5, 20));
        Bounds.asked("eaten(0, 5, 21)", Bounds.FULL, 0, x -> x.eaten(0, 5, 21));
        Bounds.asked("eaten(0, 5, 99)", Bounds.FULL, 0, x -> x.eaten(0, 5, 99));
        Bounds.asked("eaten(1, 6, 99) of salt", Bounds.FULL, 1, x -> x.eaten(1, 6, 99));
        Bounds.asked("eaten(2, 3, 0) of a gone one", Bounds.FULL, 0, x -> x.eaten(2, 3, 0));
        Bounds.asked("eaten(2, 3, 99) of a gone one", Bounds.FULL, 0, x -> x.eaten(2, 3, 99));
    }

    private static void promise16AsAntsWould() {
        for (int prefer = 1; prefer <= 6; prefer++) {
            String table = "ants " + prefer + ";die 20 0 20 9 19 20;";
            for (int minutes = 0; minutes <= 99; minutes++) {
                SugarDice x = Check.laid(table);
                SugarDice y = Check.laid(table);
                for (int i = 0; i < minutes; i++) {
                    y.ants(1);
                }
                for (int face = 1; face <= 6; face++) {
                    Check.due("eaten(0, " + face + ", " + minutes + ")", x.eaten(0, face, minutes), y.die(0, face));
                }
            }
        }
    }

    /** "till a DIE is GONE (0: it is); NONE: it is salt and not GONE" */
    private static void promise17Lasts() {
        Bounds.outside("lasts", Bounds.FULL, Check.NO_SUCH, (x, d) -> x.lasts(d), -1, 3, 4, 5);
        Bounds.outside("lasts without dice", Bounds.NEW, Check.NO_SUCH, (x, d) -> x.lasts(d), -1, 0);
        Bounds.asked("lasts of sugar", Bounds.FULL, 21, x -> x.lasts(0));
        Bounds.asked("lasts of salt", Bounds.FULL, -1, x -> x.lasts(1));
        Bounds.asked("lasts of a gone one", Bounds.FULL, 0, x -> x.lasts(2));
        Bounds.taken("lasts of gone salt", Bounds.FULL, 0, x -> {
            x.salts(2);
            return x.lasts(2);
        });
        Bounds.asked("lasts of the least", Bounds.of("die 0 0 1 0 0 0;"), 1, x -> x.lasts(0));
        Bounds.asked("lasts of the most", Bounds.of(MOST), 120, x -> x.lasts(0));
        Bounds.asked("lasts of the least salt", Bounds.of("die 0 0 1 0 0 0 salt;"), -1, x -> x.lasts(0));
        SugarDice x = Bounds.FULL.make();
        x.ants(20);
        Check.due("a minute ahead it is not gone", x.die(0, 9), 0);
        Check.due("it lasts a minute", x.lasts(0), 1);
        x.ants(1);
        Check.due("then it is", x.die(0, 9), 1);
        Check.due("and lasts no more", x.lasts(0), 0);
    }

    /** "NONE: it is GONE, or salt" */
    private static void promise18LastFace() {
        Bounds.outside("lastFace", Bounds.FULL, Check.NO_SUCH, (x, d) -> x.lastFace(d), -1, 3, 4, 5);
        Bounds.outside("lastFace without dice", Bounds.NEW, Check.NO_SUCH, (x, d) -> x.lastFace(d), -1, 0);
        Bounds.asked("lastFace of sugar", Bounds.FULL, 5, x -> x.lastFace(0));
        Bounds.asked("lastFace of salt", Bounds.FULL, -1, x -> x.lastFace(1));
        Bounds.asked("lastFace of a gone one", Bounds.FULL, -1, x -> x.lastFace(2));
        Bounds.taken("lastFace of gone salt", Bounds.FULL, -1, x -> {
            x.salts(2);
            return x.lastFace(2);
        });
        for (int prefer = 1; prefer <= 6; prefer++) {
            for (int only = 1; only <= 6; only++) {
                String table = "ants " + prefer + ";" + dieOf(only, 1);
                Bounds.asked("lastFace of one face", Bounds.of(table), only, x -> x.lastFace(0));
            }
            String all = "ants " + prefer + ";die 1 1 1 1 1 1;";
            Bounds.asked("the one ahead of " + prefer, Bounds.of(all), prefer == 1 ? 6 : prefer - 1, x -> x.lastFace(0));
        }
    }

    private static void promise18OneGrainIsLeft() {
        String[] dice = {"die 1 2 3 4 5 6;", "die 0 0 3 0 0 3;", "die 7 0 0 0 0 0;", "die 0 9 0 9 0 0;"};
        for (String die : dice) {
            for (int prefer = 1; prefer <= 6; prefer++) {
                SugarDice x = Check.laid("ants " + prefer + ";" + die);
                int last = x.lastFace(0);
                x.ants(x.lasts(0) - 1);
                Check.due("a grain is left of " + die, x.die(0, last), 1);
                Check.due("it is the last one of " + die, x.die(0, 7), 1);
                Check.due("and still the last face", x.lastFace(0), last);
            }
        }
    }

    /** "IllegalArgumentException: n isn't 1 to 20" */
    private static void promise19Rain() {
        Bounds.outside("rain", Bounds.FULL, Check.ARGUMENT, (x, n) -> x.rain(n), -1, 0, 21);
        Bounds.outside("rain on no dice", Bounds.NEW, Check.ARGUMENT, (x, n) -> x.rain(n), -1, 0, 21);
        Bounds.taken("rain(1)", Bounds.FULL, 6, x -> x.rain(1));
        Bounds.taken("rain(5)", Bounds.FULL, 20, x -> x.rain(5));
        Bounds.taken("rain(6)", Bounds.FULL, 21, x -> x.rain(6));
        Bounds.taken("rain(19)", Bounds.of(MOST), 114, x -> x.rain(19));
        Bounds.taken("rain(20)", Bounds.of(MOST), 120, x -> x.rain(20));
        Bounds.taken("rain(20) on five", Bounds.of(MOST.repeat(5)), 600, x -> x.rain(20));
        Bounds.asked("rain on no dice", Bounds.NO_DICE, 0, x -> x.rain(20));
        Bounds.asked("rain on salt alone", Bounds.SIXTY, 0, x -> x.rain(20));
        SugarDice x = Check.laid(MOST);
        x.rain(19);
        Check.due("19 of 20: not gone", x.die(0, 9), 0);
        Check.due("the rest", x.rain(20), 6);
        Check.due("20 of 20: gone", x.die(0, 9), 1);
        Check.due("no more", x.rain(20), 0);
    }

    /** "A HAND's HEAT is 0: what it was." */
    private static void promise20Fan() {
        Bounds.outside("fan", Bounds.FULL, Check.NO_SUCH, (x, h) -> x.fan(h), -1, 2, 3, 4);
        Bounds.outside("fan without hands", Bounds.NO_HANDS, Check.NO_SUCH, (x, h) -> x.fan(h), -1, 0);
        for (int heat = 0; heat <= 9; heat++) {
            int was = heat;
            Bounds.taken("fan of heat " + heat, Bounds.of("hand 3;hand " + heat + ";"), was, x -> x.fan(1));
            Bounds.taken("heat then", Bounds.of("hand 3;hand " + heat + ";"), 0, x -> {
                x.fan(1);
                return x.hand(1, 0);
            });
            Bounds.taken("the other one's heat", Bounds.of("hand 3;hand " + heat + ";"), 3, x -> {
                x.fan(1);
                return x.hand(0, 0);
            });
        }
        Bounds.asked("fan of heat 0", Bounds.of("hand 0;"), 0, x -> x.fan(0));
        Bounds.taken("the fourth", Bounds.of("hand 1;hand 2;hand 3;hand 4;"), 4, x -> x.fan(3));
        SugarDice x = Check.laid("die 9 0 0 0 0 0;hand 9;");
        x.fan(0);
        Check.due("no wear by heat 0", x.shows(0, 0, 1), 9);
        Check.due("wear by heat 1", x.shows(0, 0, 1), 8);
    }

    /** "how many HANDS got a DIE" */
    private static void promise21Lot() {
        for (int dice = 0; dice <= 5; dice++) {
            for (int hands = 0; hands <= 4; hands++) {
                String table = "die 1 2 3 4 5 6;".repeat(dice) + "hand 1;".repeat(hands);
                int got = Math.min(dice, hands);
                for (int seed : new int[] {0, 1, -1, Integer.MAX_VALUE, Integer.MIN_VALUE}) {
                    Bounds.taken("lot of " + dice + " dice, " + hands + " hands", Bounds.of(table), got, x -> x.lot(seed));
                }
            }
        }
        Bounds.asked("lot of a new one", Bounds.NEW, 0, x -> x.lot(1));
        Bounds.taken("lot at 60", Bounds.SIXTY, 1, x -> x.lot(1));
    }

    /** "HAND by HAND gets, as long as there are some": the first hands, each another die. */
    private static void promise21AsLongAsThereAreSome() {
        for (int dice = 1; dice <= 5; dice++) {
            SugarDice x = Check.laid("die 1 2 3 4 5 6;".repeat(dice) + "hand 1;".repeat(4));
            for (int seed = 0; seed < 20; seed++) {
                x.lot(seed);
                int taken = 0;
                for (int h = 0; h < 4; h++) {
                    int d = x.hand(h, 1);
                    Check.due("hand " + h + " of " + dice + " dice has one", d >= 0 && d < dice, h < dice);
                    Check.due("or none", d == -1, h >= dice);
                    taken |= d >= 0 ? 1 << d : 0;
                }
                Check.due("each another one", Integer.bitCount(taken), Math.min(dice, 4));
            }
        }
    }

    /** "the DRAW modulo how many are left-th of DICE left (in order; GONE ones, too)" */
    private static void promise21ByDraws() {
        for (int first = 0; first <= 5; first++) {
            SugarDice x = Check.laid("die 1 0 0 0 0 0;".repeat(5) + "hand 0;");
            x.rain(1);
            Check.due("a lot of gone ones", x.lot(BoundsThrowsTest.seedFor(first, 7)), 1);
            Check.due("the draw " + first, x.hand(0, 1), first % 5);
        }
        Bounds.Setup one = Bounds.of("die 1 2 3 4 5 6;".repeat(5) + "hand 0;");
        Bounds.taken("the greatest draw", one, 65535 % 5, x -> {
            x.lot(BoundsThrowsTest.seedFor(65535, 0));
            return x.hand(0, 1);
        });
        Bounds.taken("a draw of the highest bit", one, 32768 % 5, x -> {
            x.lot(BoundsThrowsTest.seedFor(32768, 0));
            return x.hand(0, 1);
        });
        SugarDice x = Check.laid("die 1 2 3 4 5 6;".repeat(3) + "hand 0;".repeat(4));
        for (int seed = 0; seed < 30; seed++) {
            x.lot(seed);
            java.util.List<Integer> left = new java.util.ArrayList<>(java.util.List.of(0, 1, 2));
            int at = seed;
            for (int h = 0; h < 3; h++) {
                at = 1103515245 * at + 12345;
                int place = (int) ((at & 0xffffffffL) / 65536 % left.size());
                Check.due("hand " + h + " by lot(" + seed + ")", x.hand(h, 1), left.remove(place));
            }
            Check.due("the fourth by lot(" + seed + ")", x.hand(3, 1), -1);
        }
    }
}
