import java.math.BigInteger;

/** Promises 43 to 46: when to stop, which die threw what, whose hands wore it. */
public final class WitnessTest {
    public static void main(String[] args) {
        stopping();
        stoppingByEveryPlan();
        stoppingWrong();
        likelier();
        fits();
        worn();
        wornByEveryRow();
        wrongTrays();
        Check.end();
    }

    private static void stopping() {
        SugarDice x = Check.laid("die 1 1 1 1 1 1;die 0 0 4 0 0 4;die 2 0 2 0 0 0;");
        Check.due("mean of one", x.stopping(0, 1, 0), 3);
        Check.due("its rest", x.stopping(0, 1, 1), 3);
        Check.due("one must stop", x.stopping(0, 1, 2), 1);
        Check.due("two throws, 4 1/4", x.stopping(0, 2, 0), 4);
        Check.due("two throws, rest", x.stopping(0, 2, 1), 9);
        Check.due("two throws, face", x.stopping(0, 2, 2), 4);
        Check.due("three throws, 4 2/3", x.stopping(0, 3, 0), 4);
        Check.due("three throws, rest", x.stopping(0, 3, 1), 144);
        Check.due("three throws, face", x.stopping(0, 3, 2), 5);
        Check.due("five throws, face", x.stopping(0, 5, 2), 5);
        Check.due("of like means one stops", x.stopping(2, 2, 2), 2);
        Check.due("a face without weight", x.stopping(1, 2, 2), 5);
        Check.due("one face alone", Check.laid("die 0 0 0 0 0 7;").stopping(0, 5, 2), 6);
        Check.due("a total of 1", Check.laid("die 0 0 0 1 0 0;").stopping(0, 3, 0), 4);
        Check.due("a total of 1, rest", Check.laid("die 0 0 0 1 0 0;").stopping(0, 3, 1), 0);
    }

    /** Every plan stops behind throw i with its face or more: the best of all of them is due. */
    private static void stoppingByEveryPlan() {
        String[] tables = {"die 1 2 3 4 5 6;", "die 6 0 0 0 0 1;", "die 20 20 20 20 20 20;", "die 20 0 3 0 17 1;", "die 0 0 0 9 0 0;"};
        for (String table : tables) {
            SugarDice x = Check.laid(table);
            BigInteger[] told = toldOf(x);
            for (int n = 1; n <= 5; n++) {
                BigInteger best = BigInteger.ZERO;
                int plans = (int) Math.pow(7, n - 1);
                for (int plan = 0; plan < plans; plan++) {
                    best = best.max(meanOfPlan(told, plan, n));
                }
                BigInteger whole = told[7].pow(n);
                BigInteger[] want = best.divideAndRemainder(whole);
                Check.due("stopping(0, " + n + ", 0) of " + table, x.stopping(0, n, 0), want[0].longValueExact());
                Check.due("stopping(0, " + n + ", 1) of " + table, x.stopping(0, n, 1), want[1].longValueExact());
            }
        }
    }

    /** Weights of the faces of die 0, and behind them its total. */
    private static BigInteger[] toldOf(SugarDice x) {
        BigInteger[] told = new BigInteger[8];
        for (int what = 1; what <= 7; what++) {
            told[what] = BigInteger.valueOf(x.die(0, what));
        }
        return told;
    }

    private static BigInteger meanOfPlan(BigInteger[] told, int plan, int n) {
        BigInteger mean = BigInteger.ZERO;
        BigInteger whole = BigInteger.ONE;
        int rest = plan;
        for (int left = 1; left <= n; left++) {
            int least = left == 1 ? 1 : rest % 7 + 1;
            rest = left == 1 ? rest : rest / 7;
            BigInteger here = BigInteger.ZERO;
            for (int face = 1; face <= 6; face++) {
                BigInteger worth = face >= least ? whole.multiply(BigInteger.valueOf(face)) : mean;
                here = here.add(worth.multiply(told[face]));
            }
            mean = here;
            whole = whole.multiply(told[7]);
        }
        return mean;
    }

    private static void stoppingWrong() {
        SugarDice x = Check.laid("die 1 0 0 0 0 0;die 2 0 0 0 0 0;");
        Check.refused("stopping(2, 0, 9)", Check.NO_SUCH, () -> x.stopping(2, 0, 9));
        Check.refused("stopping(0, 0, 0)", Check.ARGUMENT, () -> x.stopping(0, 0, 0));
        Check.refused("stopping(0, 6, 0)", Check.ARGUMENT, () -> x.stopping(0, 6, 0));
        Check.refused("stopping(0, 1, 3)", Check.ARGUMENT, () -> x.stopping(0, 1, 3));
        Check.refused("stopping(0, 1, -1)", Check.ARGUMENT, () -> x.stopping(0, 1, -1));
        x.rain(1);
        Check.refused("stopping of a gone one", Check.STATE, () -> x.stopping(0, 1, 0));
        Check.refused("stopping(0, 6, 3) of a gone one", Check.STATE, () -> x.stopping(0, 6, 3));
    }

    private static void likelier() {
        SugarDice x = Check.laid("die 1 2 3 4 5 6;die 2 4 6 8 10 12;die 0 0 4 0 0 4;die 20 0 0 0 0 0;");
        Check.fill(x, 0, 0, 6);
        Check.due("likelier by 6", x.likelier(0), 2);
        Check.fill(x, 0, 0, 2);
        Check.due("the first of like ones", x.likelier(0), 0);
        Check.fill(x, 0, 1, 1);
        Check.due("likelier by 1", x.likelier(0), 3);
        Check.fill(x, 0, 2, 3, 6, 3, 6, 3);
        Check.due("five faces", x.likelier(0), 2);
        Check.fill(x, 0, 3, 1, 1, 1, 1, 6);
        Check.due("the others can't", x.likelier(0), 0);
        x.rain(6);
        Check.due("the greatest that is left", x.likelier(0), 1 - 2);
        Check.fill(x, 0, 3, 6, 5);
        Check.due("one is left", x.likelier(0), 1);
        Check.fill(x, 0, 3, 2);
        Check.due("no die can", x.likelier(0), -1);
        SugarDice big = Check.laid("die 20 20 20 20 20 19;die 20 20 20 20 20 20;");
        Check.fill(big, 0, 0, 6, 6, 6, 6, 6);
        Check.due("great numbers", big.likelier(0), 1);
        SugarDice none = new SugarDice();
        Check.fill(none, 0, 0, 6);
        Check.due("no dice", none.likelier(0), -1);
    }

    private static void fits() {
        SugarDice x = Check.laid("die 1 2 3 4 5 6;die 2 0 0 0 0 1;die 0 0 4 0 0 4;die 1 1 1 1 1 1;die 0 0 0 0 0 1;");
        Check.fill(x, 0, 0, 6, 6, 6, 6, 6);
        Check.due("all of them", x.fits(0), 3125);
        Check.fill(x, 0, 0, 1, 3, 6);
        Check.due("3 by 3 by 5", x.fits(0), 45);
        x.rain(1);
        Check.due("behind rain", x.fits(0), 1 * 2 * 2);
        Check.fill(x, 0, 0, 2, 1);
        Check.due("1 by 1", x.fits(0), 1);
        x.rain(5);
        Check.due("none", x.fits(0), 0);
        SugarDice none = new SugarDice();
        Check.fill(none, 0, 0, 6);
        Check.due("no dice", none.fits(0), 0);
    }

    private static void worn() {
        SugarDice x = Check.laid("die 1 2 3 4 5 6;die 1 0 0 0 0 9 salt;hand 2;hand 0;hand 9;");
        String was = Check.state(x);
        Check.fill(x, 0, 0, 6, 6, 6);
        Check.due("rows", x.worn(0, 0, 18, -1), 4);
        Check.due("0, 1, 1", x.worn(0, 0, 18, 0), 5);
        Check.due("1, 0, 1", x.worn(0, 0, 18, 1), 17);
        Check.due("1, 1, 0", x.worn(0, 0, 18, 2), 20);
        Check.due("1, 1, 1", x.worn(0, 0, 18, 3), 21);
        Check.due("no more", x.worn(0, 0, 18, 4), -1);
        Check.due("not by -2", x.worn(0, 0, 18, -2), -1);
        Check.due("worn away is the end", x.worn(0, 0, 15, -1), 5);
        Check.due("a total below 0", x.worn(0, 0, -1, -1), 0);
        Check.due("a total below 0, first", x.worn(0, 0, -1, 0), -1);
        Check.due("salt doesn't wear", x.worn(1, 0, 10, -1), 27);
        Check.due("the last row", x.worn(1, 0, 10, 26), 42);
        Check.fill(x, 0, 0, 2);
        Check.due("no weight at all", x.worn(1, 0, 10, -1), 0);
        Check.sameState("as if", x, was);
        Check.due("no weight, a total below 0", x.worn(1, 0, -1, -1), 0);
        SugarDice all = Check.laid("die 2 0 0 0 0 0;hand 1;hand 5;");
        Check.fill(all, 0, 0, 1, 1);
        Check.due("worn to nothing", all.worn(0, 0, 0, -1), 2);
        Check.due("worn to nothing by 0, 1", all.worn(0, 0, 0, 1), 1);
        SugarDice nobody = Check.laid("die 1 2 3 4 5 6;");
        Check.fill(nobody, 0, 0, 6);
        Check.due("no hands", nobody.worn(0, 0, 21, -1), 0);
        SugarDice gone = Check.laid("die 1 0 0 0 0 0;hand 1;");
        gone.shows(0, 0, 1);
        Check.fill(gone, 0, 0, 1);
        Check.due("a gone one", gone.worn(0, 0, 0, -1), 0);
        SugarDice sixty = Check.laid("die 1 0 0 0 0 0 salt;hand 1;");
        sixty.evening(1, 40);
        sixty.evening(1, 20);
        Check.fill(sixty, 0, 0, 1);
        Check.due("with 60 throws, too", sixty.worn(0, 0, 1, -1), 1);
    }

    /** Each row is thrown on an object of its own, and its total compared. */
    private static void wornByEveryRow() {
        String table = "die 4 9 0 1 3 20;hand 1;hand 8;hand 3;hand 0;";
        long[][] trays = {{2, 2, 6, 2, 1}, {6, 6, 6, 6, 6}, {1, 2, 1}, {4, 4}};
        for (long[] faces : trays) {
            int[] found = new int[121];
            for (int row = 0; row < 1 << 2 * faces.length; row++) {
                int total = thrownBy(table, faces, row);
                if (total >= 0) {
                    SugarDice x = Check.laid(table);
                    Check.fill(x, 0, 3, faces);
                    Check.due("worn row of " + total, x.worn(0, 0, total, found[total]), row);
                    found[total]++;
                }
            }
            SugarDice x = Check.laid(table);
            Check.fill(x, 0, 3, faces);
            for (int total = 0; total <= 120; total++) {
                Check.due("worn rows of " + total, x.worn(0, 0, total, -1), found[total]);
            }
        }
    }

    private static int thrownBy(String table, long[] faces, int row) {
        SugarDice y = Check.laid(table);
        for (int i = 0; i < faces.length; i++) {
            int h = row >> 2 * (faces.length - 1 - i) & 3;
            if (y.die(0, (int) faces[i]) == 0) {
                return -1;
            }
            y.shows(0, h, (int) faces[i]);
        }
        return y.die(0, 7);
    }

    private interface OfTray {
        long answer(SugarDice x, int tray);
    }

    private static void wrongTrays() {
        OfTray[] calls = {SugarDice::likelier, SugarDice::fits, (x, t) -> x.worn(0, t, 21, -1)};
        for (int i = 0; i < calls.length; i++) {
            OfTray call = calls[i];
            SugarDice x = Check.laid("die 1 2 3 4 5 6;hand 0;");
            Check.refused("no such tray, call " + i, Check.NO_SUCH, () -> call.answer(x, 4));
            Check.refused("tray -1, call " + i, Check.NO_SUCH, () -> call.answer(x, -1));
            Check.refused("a missing one, call " + i, Check.STATE, () -> call.answer(x, 3));
            Check.fill(x, 0, 0);
            Check.refused("no numbers, call " + i, Check.ARGUMENT, () -> call.answer(x, 0));
            Check.fill(x, 0, 0, 1, 1, 1, 1, 1, 1);
            Check.refused("six numbers, call " + i, Check.ARGUMENT, () -> call.answer(x, 0));
            Check.fill(x, 0, 0, 1, 0);
            Check.refused("a 0, call " + i, Check.ARGUMENT, () -> call.answer(x, 0));
            Check.fill(x, 0, 0, 7, 1);
            Check.refused("a 7, call " + i, Check.ARGUMENT, () -> call.answer(x, 0));
            Check.fill(x, 0, 3, 4294967297L);
            Check.refused("a great one, call " + i, Check.ARGUMENT, () -> call.answer(x, 0));
        }
        SugarDice x = Check.laid("die 1 2 3 4 5 6;hand 0;");
        Check.refused("worn(1, 3, 0, 0)", Check.NO_SUCH, () -> x.worn(1, 3, 0, 0));
        Check.refused("worn(-1, 3, 0, 0)", Check.NO_SUCH, () -> x.worn(-1, 3, 0, 0));
    }
}
