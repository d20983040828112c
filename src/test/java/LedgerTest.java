/** Promises 47 to 50: what was thrown. */
public final class LedgerTest {
    public static void main(String[] args) {
        SugarDice x = Check.laid("die 9 9 9 9 9 9 salt;die 9 9 9 9 9 9 salt;die 1 0 0 0 0 0;hand 0;hand 0;");
        Check.due("loaded of none", x.loaded(), -1);
        Check.due("off of none", x.off(0), 0);
        Check.due("streak of none", x.streak(1), 0);
        int[][] thrown = {{0, 3}, {1, 3}, {0, 3}, {0, 5}, {1, 3}, {1, 3}, {0, 6}};
        for (int[] one : thrown) {
            x.shows(one[0], one[0], one[1]);
        }
        tallies(x);
        streaks(x);
        off(x);
        afterBack(x);
        wrong(x);
        Check.end();
    }

    private static void tallies(SugarDice x) {
        int[][] want = {{0, 0, 2, 0, 1, 1}, {0, 0, 3, 0, 0, 0}, {0, 0, 0, 0, 0, 0}};
        for (int d = 0; d < 3; d++) {
            for (int face = 1; face <= 6; face++) {
                Check.due("tally(" + d + ", " + face + ")", x.tally(d, face), want[d][face - 1]);
            }
        }
    }

    private static void streaks(SugarDice x) {
        int[] want = {0, 0, 3, 0, 1, 1};
        for (int face = 1; face <= 6; face++) {
            Check.due("streak(" + face + ")", x.streak(face), want[face - 1]);
        }
    }

    private static void off(SugarDice x) {
        Check.due("off(0)", x.off(0), 4 + 4 + 8 + 4 + 2 + 2);
        Check.due("off(1)", x.off(1), 15 + 5 * 3);
        Check.due("off(2)", x.off(2), 0);
        Check.due("loaded()", x.loaded(), 1);
    }

    private static void afterBack(SugarDice x) {
        x.back(2);
        Check.due("tally behind back", x.tally(1, 3), 2);
        Check.due("streak behind back", x.streak(3), 3);
        Check.due("off(0) behind back", x.off(0), 3 + 3 + 9 + 3 + 3 + 3);
        Check.due("off(1) behind back", x.off(1), 20);
        Check.due("loaded behind back", x.loaded(), 0);
        SugarDice y = Check.laid("die 1 1 1 1 1 1 salt;die 1 1 1 1 1 1 salt;hand 0;");
        y.shows(1, 0, 1);
        y.shows(0, 0, 2);
        Check.due("the first of like ones", y.loaded(), 0);
        SugarDice even = Check.laid("die 1 1 1 1 1 1 salt;hand 0;");
        for (int face = 1; face <= 6; face++) {
            even.shows(0, 0, face);
        }
        Check.due("each face once", even.off(0), 0);
        Check.due("none is above 0", even.loaded(), -1);
    }

    private static void wrong(SugarDice x) {
        Check.refused("tally(3, 0)", Check.NO_SUCH, () -> x.tally(3, 0));
        Check.refused("tally(-1, 1)", Check.NO_SUCH, () -> x.tally(-1, 1));
        Check.refused("tally(0, 0)", Check.ARGUMENT, () -> x.tally(0, 0));
        Check.refused("tally(0, 7)", Check.ARGUMENT, () -> x.tally(0, 7));
        Check.refused("streak(0)", Check.ARGUMENT, () -> x.streak(0));
        Check.refused("streak(7)", Check.ARGUMENT, () -> x.streak(7));
        Check.refused("off(3)", Check.NO_SUCH, () -> x.off(3));
        Check.refused("off(-1)", Check.NO_SUCH, () -> x.off(-1));
    }
}
