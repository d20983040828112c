/** Boundaries of promises 47 to 50, each on both sides. */
public final class BoundsLedgerTest {
    private static final String SALT = "die 1 1 1 1 1 1 salt;";

    public static void main(String[] args) {
        promise47Tally();
        promise48Streak();
        promise49Off();
        promise50Loaded();
        Check.end();
    }

    /** Throws of dice by told numbers: 10 times the die and the face. */
    private static Bounds.Setup thrown(int dice, int... numbers) {
        return () -> {
            SugarDice x = Check.laid(SALT.repeat(dice) + "hand 0;");
            for (int number : numbers) {
                x.shows(number / 10, 0, number % 10);
            }
            return x;
        };
    }

    private static SugarDice sixtyOf(int face, int other, int at) {
        SugarDice x = Check.laid(SALT + "hand 0;");
        for (int k = 0; k < 60; k++) {
            x.shows(0, 0, k == at ? other : face);
        }
        return x;
    }

    /** "How often a DIE showed a face. IllegalArgumentException: no face." */
    private static void promise47Tally() {
        Bounds.outside("tally(.., 1)", Bounds.FULL, Check.NO_SUCH, (x, d) -> x.tally(d, 1), -1, 3, 4, 5);
        Bounds.outside("tally(.., 0)", Bounds.FULL, Check.NO_SUCH, (x, d) -> x.tally(d, 0), -1, 3);
        Bounds.outside("tally(.., 7)", Bounds.FULL, Check.NO_SUCH, (x, d) -> x.tally(d, 7), -1, 3);
        int[] shown = {6, 1, 3};
        for (int d = 0; d < 3; d++) {
            int die = d;
            Bounds.outside("tally(" + d + ", ..)", Bounds.FULL, Check.ARGUMENT, (x, face) -> x.tally(die, face), -1, 0, 7);
            for (int face = 1; face <= 6; face++) {
                int asked = face;
                Bounds.asked("tally(" + d + ", " + face + ")", Bounds.FULL, face == shown[d] ? 1 : 0, x -> x.tally(die, asked));
                Bounds.asked("tally of none", thrown(3), 0, x -> x.tally(die, asked));
            }
        }
        Bounds.asked("60 of 60", () -> sixtyOf(1, 1, 0), 60, x -> x.tally(0, 1));
        Bounds.asked("59 of 60", () -> sixtyOf(6, 1, 59), 59, x -> x.tally(0, 6));
        Bounds.asked("1 of 60", () -> sixtyOf(6, 1, 59), 1, x -> x.tally(0, 1));
        Bounds.taken("behind back", () -> sixtyOf(6, 1, 59), 0, x -> {
            x.back(1);
            return x.tally(0, 1);
        });
        Bounds.asked("the fifth die", thrown(5, 42, 42, 32), 2, x -> x.tally(4, 2));
    }

    /** "The longest row of THROWS one behind the other that showed a face. IllegalArgumentException: no face." */
    private static void promise48Streak() {
        Bounds.outside("streak", Bounds.FULL, Check.ARGUMENT, (x, face) -> x.streak(face), -1, 0, 7);
        Bounds.outside("streak of a new one", Bounds.NEW, Check.ARGUMENT, (x, face) -> x.streak(face), -1, 0, 7);
        int[] want = {1, 0, 1, 0, 0, 1};
        for (int face = 1; face <= 6; face++) {
            int asked = face;
            Bounds.asked("streak(" + face + ")", Bounds.FULL, want[face - 1], x -> x.streak(asked));
            Bounds.asked("streak(" + face + ") of a new one", Bounds.NEW, 0, x -> x.streak(asked));
        }
        Bounds.asked("60 in a row", () -> sixtyOf(1, 1, 0), 60, x -> x.streak(1));
        Bounds.asked("59 behind the first", () -> sixtyOf(6, 1, 0), 59, x -> x.streak(6));
        Bounds.asked("59 ahead of the last", () -> sixtyOf(6, 1, 59), 59, x -> x.streak(6));
        Bounds.asked("30 behind the middle", () -> sixtyOf(6, 1, 29), 30, x -> x.streak(6));
        Bounds.asked("30 ahead of the middle", () -> sixtyOf(6, 1, 30), 30, x -> x.streak(6));
        Bounds.asked("one of another", () -> sixtyOf(6, 1, 30), 1, x -> x.streak(1));
        Bounds.asked("of several dice", thrown(3, 4, 14, 24, 23, 4), 3, x -> x.streak(4));
        Bounds.asked("a longer one later", thrown(1, 4, 4, 3, 4, 4, 4), 3, x -> x.streak(4));
        Bounds.asked("a longer one first", thrown(1, 4, 4, 4, 3, 4, 4), 3, x -> x.streak(4));
    }

    /** "of all faces how far 6 times how often it showed it is from how often it was thrown, together" */
    private static void promise49Off() {
        Bounds.outside("off", Bounds.FULL, Check.NO_SUCH, (x, d) -> x.off(d), -1, 3, 4, 5);
        Bounds.outside("off of a new one", Bounds.NEW, Check.NO_SUCH, (x, d) -> x.off(d), -1, 0);
        Bounds.asked("thrown once", Bounds.FULL, 10, x -> x.off(0));
        Bounds.asked("a gone one", Bounds.FULL, 10, x -> x.off(2));
        Bounds.asked("not thrown", thrown(2, 1), 0, x -> x.off(1));
        Bounds.asked("each face once", thrown(1, 1, 2, 3, 4, 5, 6), 0, x -> x.off(0));
        Bounds.asked("one of them not", thrown(1, 1, 2, 3, 4, 5, 5), 12, x -> x.off(0));
        Bounds.asked("one more", thrown(1, 1, 2, 3, 4, 5, 6, 6), 5 + 5, x -> x.off(0));
        Bounds.asked("60 of one face", () -> sixtyOf(3, 3, 0), 600, x -> x.off(0));
        Bounds.asked("59 of one face", () -> sixtyOf(3, 4, 0), 294 + 54 + 240, x -> x.off(0));
    }

    /** "The DIE with the greatest OFF, the first; NONE: none is above 0." */
    private static void promise50Loaded() {
        Bounds.asked("of none", Bounds.NEW, -1, x -> x.loaded());
        Bounds.asked("not thrown", thrown(5), -1, x -> x.loaded());
        Bounds.asked("all alike: the first", Bounds.FULL, 0, x -> x.loaded());
        Bounds.asked("each face once", thrown(1, 1, 2, 3, 4, 5, 6), -1, x -> x.loaded());
        Bounds.asked("one of them above 0", thrown(2, 1, 2, 3, 4, 5, 6, 11), 1, x -> x.loaded());
        Bounds.asked("the last of five", thrown(5, 41), 4, x -> x.loaded());
        Bounds.asked("10 and 20", thrown(2, 1, 11, 11), 1, x -> x.loaded());
        Bounds.asked("20 and 20", thrown(2, 11, 11, 1, 1), 0, x -> x.loaded());
        Bounds.asked("a gone one", () -> {
            SugarDice x = Check.laid(SALT + "die 0 0 0 0 0 1;hand 1;");
            x.shows(1, 0, 6);
            return x;
        }, 1, x -> x.loaded());
    }
}
