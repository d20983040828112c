/** Promises 15 to 21: ants, rain, fans, lots. */
public final class AntsTest {
    private static final String TABLE = "ants 2;die 1 2 3 4 5 6;die 6 0 0 0 0 1 salt;die 0 0 4 0 0 4;hand 2;hand 0;";

    public static void main(String[] args) {
        ants();
        asIf();
        lasting();
        rain();
        fans();
        lots();
        Check.end();
    }

    private static void ants() {
        SugarDice x = Check.laid(TABLE);
        Check.due("ants(3)", x.ants(3), 6);
        int[] first = {1, 0, 2, 4, 5, 6};
        int[] last = {0, 0, 1, 0, 0, 4};
        for (int face = 1; face <= 6; face++) {
            Check.due("die 0, face " + face, x.die(0, face), first[face - 1]);
            Check.due("die 2, face " + face, x.die(2, face), last[face - 1]);
        }
        Check.due("salt stays", x.die(1, 7), 7);
        Check.due("till one is gone", x.ants(10), 15);
        Check.due("1 is behind 6", x.die(0, 1), 1);
        Check.due("gone", x.count(5), 1);
        Check.due("ants(99)", x.ants(99), 8);
        Check.due("ants have it all", x.ants(1), 0);
        Check.due("salt alone", x.count(6), 7);
        Check.refused("ants(0)", Check.ARGUMENT, () -> x.ants(0));
        Check.refused("ants(100)", Check.ARGUMENT, () -> x.ants(100));
        Check.due("no dice", new SugarDice().ants(1), 0);
        SugarDice big = Check.laid("die 20 20 20 20 20 20;");
        Check.due("99 of 120", big.ants(99), 99);
        Check.due("they prefer 5 at first", big.die(0, 4), 20);
        Check.due("and come round to 3", big.die(0, 3), 1);
    }

    private static void asIf() {
        String was = Check.state(Check.laid(TABLE));
        for (int d = 0; d < 3; d++) {
            for (int minutes = 0; minutes <= 99; minutes++) {
                SugarDice x = Check.laid(TABLE);
                SugarDice y = Check.laid(TABLE);
                if (minutes > 0) {
                    y.ants(minutes);
                }
                for (int face = 1; face <= 6; face++) {
                    Check.due("eaten(" + d + ", " + face + ", " + minutes + ")", x.eaten(d, face, minutes), y.die(d, face));
                }
                Check.sameState("as if", x, was);
            }
        }
        SugarDice x = Check.laid(TABLE);
        Check.refused("eaten(3, 1, 1)", Check.NO_SUCH, () -> x.eaten(3, 1, 1));
        Check.refused("eaten(-1, 0, -1)", Check.NO_SUCH, () -> x.eaten(-1, 0, -1));
        Check.refused("eaten(0, 0, 1)", Check.ARGUMENT, () -> x.eaten(0, 0, 1));
        Check.refused("eaten(0, 7, 1)", Check.ARGUMENT, () -> x.eaten(0, 7, 1));
        Check.refused("eaten(0, 1, -1)", Check.ARGUMENT, () -> x.eaten(0, 1, -1));
        Check.refused("eaten(0, 1, 100)", Check.ARGUMENT, () -> x.eaten(0, 1, 100));
    }

    private static void lasting() {
        SugarDice x = Check.laid("die 20 20 20 20 20 20;die 0 7 0 0 1 0;die 3 0 0 3 0 0 salt;ants 4;");
        int[] lasts = {120, 8, -1};
        int[] faces = {3, 2, -1};
        for (int d = 0; d < 3; d++) {
            Check.due("lasts(" + d + ")", x.lasts(d), lasts[d]);
            Check.due("lastFace(" + d + ")", x.lastFace(d), faces[d]);
        }
        Check.due("the one they prefer", Check.laid("die 0 0 0 0 1 0;").lastFace(0), 5);
        Check.due("a last grain", Check.laid("die 0 0 0 1 9 9;").lastFace(0), 4);
        x.ants(8);
        Check.due("lasts of a gone one", x.lasts(1), 0);
        Check.due("lastFace of a gone one", x.lastFace(1), -1);
        x.salts(1);
        x.salts(0);
        Check.due("lasts of gone salt", x.lasts(1), 0);
        Check.due("lastFace of gone salt", x.lastFace(1), -1);
        Check.due("lasts of new salt", x.lasts(0), -1);
        Check.due("lastFace of new salt", x.lastFace(0), -1);
        Check.refused("lasts(3)", Check.NO_SUCH, () -> x.lasts(3));
        Check.refused("lasts(-1)", Check.NO_SUCH, () -> x.lasts(-1));
        Check.refused("lastFace(3)", Check.NO_SUCH, () -> x.lastFace(3));
        Check.refused("lastFace(-1)", Check.NO_SUCH, () -> x.lastFace(-1));
    }

    private static void rain() {
        SugarDice x = Check.laid(TABLE);
        Check.due("rain(2)", x.rain(2), 1 + 2 * 5 + 4);
        int[] first = {0, 0, 1, 2, 3, 4};
        for (int face = 1; face <= 6; face++) {
            Check.due("die 0, face " + face, x.die(0, face), first[face - 1]);
        }
        Check.due("salt stays", x.die(1, 7), 7);
        Check.due("die 2", x.die(2, 7), 4);
        Check.due("rain(20)", x.rain(20), 14);
        Check.due("rain(1)", x.rain(1), 0);
        Check.refused("rain(0)", Check.ARGUMENT, () -> x.rain(0));
        Check.refused("rain(21)", Check.ARGUMENT, () -> x.rain(21));
        Check.refused("rain(-1)", Check.ARGUMENT, () -> x.rain(-1));
    }

    private static void fans() {
        SugarDice x = Check.laid(TABLE);
        Check.due("fan(0)", x.fan(0), 2);
        Check.due("fan(0) again", x.fan(0), 0);
        Check.due("heat 0", x.hand(0, 0), 0);
        Check.due("no wear", x.shows(0, 0, 6), 21);
        Check.due("heat 1", x.hand(0, 0), 1);
        Check.due("fan(1)", x.fan(1), 0);
        x.shows(1, 1, 1);
        Check.due("fan(1) of heat", x.fan(1), 1);
        Check.due("heat of the other one", x.hand(0, 0), 1);
        Check.due("heat 0 of the second", x.hand(1, 0), 0);
        Check.refused("fan(2)", Check.NO_SUCH, () -> x.fan(2));
        Check.refused("fan(-1)", Check.NO_SUCH, () -> x.fan(-1));
    }

    private static void lots() {
        String five = "die 1 0 0 0 0 0;die 2 0 0 0 0 0;die 3 0 0 0 0 0;die 4 0 0 0 0 0;die 5 0 0 0 0 0;";
        for (int seed = -5; seed < 60; seed++) {
            SugarDice x = Check.laid(five + "hand 0;hand 0;hand 0;hand 0;");
            x.rain(3);
            Check.due("lot(" + seed + ")", x.lot(seed), 4);
            java.util.List<Integer> left = new java.util.ArrayList<>(java.util.List.of(0, 1, 2, 3, 4));
            int at = seed;
            for (int h = 0; h < 4; h++) {
                at = 1103515245 * at + 12345;
                int d = left.remove((at >>> 16) % left.size());
                Check.due("hand " + h + " by lot(" + seed + ")", x.hand(h, 1), d);
            }
        }
        SugarDice x = Check.laid("die 1 0 0 0 0 0;hand 0;hand 0;hand 0;");
        Check.due("one die", x.lot(3), 1);
        Check.due("the first gets it", x.hand(0, 1), 0);
        Check.due("the second gets none", x.hand(1, 1), -1);
        Check.due("the third gets none", x.hand(2, 1), -1);
        Check.due("again", x.lot(4), 1);
        Check.due("no dice", Check.laid("hand 1;").lot(1), 0);
        Check.due("no hands", Check.laid("die 1 0 0 0 0 0;").lot(1), 0);
    }
}
