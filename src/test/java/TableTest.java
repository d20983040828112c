/** Promises 1 to 7: the table's text and what lies on the table. */
public final class TableTest {
    private static final String SIX = "die 1 2 3 4 5 6;";

    public static void main(String[] args) {
        aNewObject();
        feeding();
        reading();
        tokens();
        faults();
        faultyTablesChangeNothing();
        dice();
        hands();
        salts();
        Check.end();
    }

    private static void aNewObject() {
        SugarDice x = new SugarDice();
        int[] counts = {0, 0, 0, 5, 0, 0, 0, 0, -1};
        for (int what = 0; what < counts.length; what++) {
            Check.due("new count(" + what + ")", x.count(what), counts[what]);
        }
        Check.due("new fault(0)", x.fault(0), 0);
        Check.due("new fault(1)", x.fault(1), -1);
        for (int i = 0; i < 4; i++) {
            int tray = i;
            Check.refused("new pour(" + i + ")", Check.STATE, () -> x.pour(tray));
        }
        Check.due("NONE", SugarDice.NONE, -1);
    }

    private static void feeding() {
        SugarDice x = new SugarDice();
        Check.due("highest byte first", Check.read(x, "ants 3;die 0 0 0 0 0 7;hand 4;"), 3);
        Check.due("highest byte first, ants", x.count(3), 3);
        Check.due("highest byte first, weight", x.die(0, 6), 7);
        for (int i = 1; i <= 30; i++) {
            Check.due("feed no. " + i, x.feed(0x20202020, 0x20202020, 0x20202020, 0x20202020, 0x20202020), 20 * i);
        }
        Check.due("feed beyond 600", x.feed(0, 0, 0, 0, 0), -1);
        Check.due("tape beyond 600", x.count(7), 600);
        Check.due("600 blanks are a table", x.table(600), 0);
        Check.due("tape then", x.count(7), 0);
        Check.due("feed then", x.feed(0, 0, 0, 0, 0), 20);
    }

    private static void reading() {
        SugarDice x = new SugarDice();
        Check.due("no bytes", x.table(0), 0);
        Check.fed(x, SIX + "hand 3;");
        Check.refused("table(-1)", Check.ARGUMENT, () -> x.table(-1));
        Check.refused("table(41)", Check.ARGUMENT, () -> x.table(41));
        Check.due("tape behind wrong calls", x.count(7), 40);
        Check.due("the first bytes alone", x.table(16), 1);
        Check.due("tape behind the table", x.count(7), 0);
        Check.due("hands behind the first bytes", x.count(2), 0);
        Check.due("all lines", Check.read(x, "ants 1;ants 4;" + SIX + "hand 0;hand 9;"), 5);
        Check.due("count(0)", x.count(0), 5);
        Check.due("later ants strike", x.count(3), 4);
        x.cast(0, 0, 7);
        x.lot(5);
        Check.due("a table anew", Check.read(x, SIX + "hand 0;"), 2);
        Check.due("no throws", x.count(4), 0);
        Check.due("no lot", x.hand(0, 1), -1);
        Check.due("ants are 5 again", x.count(3), 5);
        Check.due("an empty table", x.table(0), 0);
        Check.due("no dice", x.count(1), 0);
        Check.due("no hands", x.count(2), 0);
        Check.due("no lines", x.count(0), 0);
    }

    private static void tokens() {
        SugarDice x = new SugarDice();
        Check.due("no blanks", Check.read(x, "die1 2 3 4 5 6salt;hand1;ants2;"), 3);
        Check.due("no blanks, salt", x.die(0, 8), 1);
        Check.due("line feeds", Check.read(x, "\n die\n1 \n 2 3 4\n5 6\n;\n\n"), 1);
        Check.due("leading zeros", Check.read(x, "die 020 000 001 0 00 0;hand 009;ants 006;"), 3);
        Check.due("leading zeros, 020", x.die(0, 1), 20);
        Check.due("leading zeros, 001", x.die(0, 3), 1);
        Check.due("leading zeros, 009", x.hand(0, 0), 9);
        Check.due("the sixth alone", Check.read(x, "die 0 0 0 0 0 1;"), 1);
        Check.due("the sixth 0", Check.read(x, "die 1 0 0 0 0 0;"), 1);
        Check.due("most dice and hands", Check.read(x, SIX + SIX + SIX + SIX + SIX + "hand 1;hand 2;hand 3;hand 4;"), 9);
    }

    private static void faulty(String text, int kind, int place) {
        SugarDice x = new SugarDice();
        Check.due("table of <" + text + ">", Check.read(x, text), -10 - kind);
        Check.due("fault(0) of <" + text + ">", x.fault(0), kind);
        Check.due("fault(1) of <" + text + ">", x.fault(1), place);
        Check.due("fault(2)", x.fault(2), -1);
        Check.due("fault(-1)", x.fault(-1), -1);
        Check.due("tape behind <" + text + ">", x.count(7), 0);
        Check.due("table behind <" + text + ">", x.count(0), 0);
    }

    private static void faults() {
        faulty("Die 1 2 3 4 5 6;", 1, 0);
        faulty("die 1 2 3,4 5 6;", 1, 9);
        faulty("die\t1 2 3 4 5 6;", 1, 3);
        faulty("die 1 2 3 4 5 \u00e9;", 1, 14);
        faulty("die 1 2 3 4 5 \0;", 1, 14);
        faulty("die\r1", 1, 3);
        faulty("hand 0001;", 1, 5);
        faulty("hand 12345678901;", 1, 5);
        faulty("1234", 1, 0);
        faulty("hand 1;-", 1, 7);
        faulty("hand 1{", 1, 6);
        faulty("hand 1`", 1, 6);
        faulty("hand 1:", 1, 6);
        faulty("hand 1/", 1, 6);
        faulty(";", 2, 0);
        faulty("hand 1;;", 2, 7);
        faulty("salt;", 2, 0);
        faulty("dice 1 2 3 4 5 6;", 2, 0);
        faulty("di", 2, 0);
        faulty("z", 2, 0);
        faulty("a", 2, 0);
        faulty("lie 1 2 3 4 5 6;", 2, 0);
        faulty("dim 1 2 3 4 5 6;", 2, 0);
        faulty("band 1;", 2, 0);
        faulty("ante 1;", 2, 0);
        faulty("die 1 2 3 4 5 6 malt;", 2, 16);
        faulty("12;", 2, 0);
        faulty("die 1 2 3 4 5;", 2, 13);
        faulty("die 1 2 3 4 5 salt;", 2, 14);
        faulty("die 1 2 3 4 5 6 7;", 2, 16);
        faulty("die 1 2 3 4 5 6 salt salt;", 2, 21);
        faulty("die 1 2 3 4 5 6 salty;", 2, 16);
        faulty("hand 1 salt;", 2, 7);
        faulty("hand hand 1;", 2, 5);
        faulty("hand;", 2, 4);
        faulty("hand 1", 2, 6);
        faulty("hand 1  ", 2, 8);
        faulty("hand", 2, 4);
        faulty("ants", 2, 4);
        faulty("die 1 2 3", 2, 9);
        faulty("die 1 2 3 4 5 6 salt", 2, 20);
        faulty("die 21 0 0 0 0 0;", 3, 4);
        faulty("die 0 0 0 0 0 21;", 3, 14);
        faulty("die 1 0 0 0 0 999;", 3, 14);
        faulty("die 0 0 0 0 0 0;", 3, 14);
        faulty("die 0 0 0 0 0 000 salt;", 3, 14);
        faulty("hand 10;", 3, 5);
        faulty("ants 0;", 3, 5);
        faulty("ants 7;", 3, 5);
        faulty("hand 1;die 99 ?;", 3, 11);
        faulty(SIX + SIX + SIX + SIX + SIX + " die 99;", 4, 81);
        faulty(SIX + SIX + SIX + SIX + SIX + "die", 4, 80);
        faulty("hand 1;hand 1;hand 1;hand 1;hand ?", 4, 28);
        faulty("hand 1;hand 1;hand 1;hand 1;hand hand", 4, 28);
    }

    private static void faultyTablesChangeNothing() {
        SugarDice x = Check.laid(SIX + "die 1 1 1 1 1 1 salt;hand 2;ants 3;");
        x.cast(0, 0, 1);
        x.lot(2);
        String was = Check.state(x);
        Check.due("a fault", Check.read(x, "hand 1;hand 2;die 9 9 9 9 9 9 salt;ants 1;hand 10;"), -13);
        Check.sameState("behind a fault", x, was);
        Check.refused("table(1) of an empty tape", Check.ARGUMENT, () -> x.table(1));
        Check.due("the fault stays behind a call that throws", x.fault(0), 3);
        Check.due("its place stays", x.fault(1), 47);
        Check.due("a table without fault", Check.read(x, "hand 1;"), 1);
        Check.due("no fault then", x.fault(0), 0);
        Check.due("no place then", x.fault(1), -1);
    }

    private static void dice() {
        SugarDice x = Check.laid("die 1 2 0 4 5 6;die 0 0 1 0 0 0 salt;hand 9;");
        int[] first = {1, 2, 0, 4, 5, 6, 18, 0, 0, 0};
        int[] second = {0, 0, 1, 0, 0, 0, 1, 1, 0, 0};
        for (int what = 1; what <= 10; what++) {
            Check.due("die(0, " + what + ")", x.die(0, what), first[what - 1]);
            Check.due("die(1, " + what + ")", x.die(1, what), second[what - 1]);
        }
        x.shows(1, 0, 3);
        x.shows(1, 0, 3);
        Check.due("die(1, 10) thrown", x.die(1, 10), 2);
        Check.due("die(0, 10) not thrown", x.die(0, 10), 0);
        x.rain(20);
        Check.due("die(0, 9) gone", x.die(0, 9), 1);
        Check.due("die(0, 7) gone", x.die(0, 7), 0);
        Check.due("die(1, 9) of salt", x.die(1, 9), 0);
        Check.refused("die(2, 1)", Check.NO_SUCH, () -> x.die(2, 1));
        Check.refused("die(-1, 1)", Check.NO_SUCH, () -> x.die(-1, 1));
        Check.refused("die(2, 0)", Check.NO_SUCH, () -> x.die(2, 0));
        Check.refused("die(0, 0)", Check.ARGUMENT, () -> x.die(0, 0));
        Check.refused("die(0, 11)", Check.ARGUMENT, () -> x.die(0, 11));
    }

    private static void hands() {
        SugarDice x = Check.laid(SIX + "hand 7;hand 0;");
        Check.due("hand(0, 0)", x.hand(0, 0), 7);
        Check.due("hand(1, 0)", x.hand(1, 0), 0);
        Check.due("hand(0, 1)", x.hand(0, 1), -1);
        Check.due("hand(0, 2)", x.hand(0, 2), 0);
        x.shows(0, 1, 6);
        x.shows(0, 1, 6);
        x.shows(0, 0, 1);
        Check.due("hand(1, 2) thrown", x.hand(1, 2), 2);
        Check.due("hand(0, 2) thrown", x.hand(0, 2), 1);
        Check.due("hand(1, 0) thrown", x.hand(1, 0), 2);
        x.lot(1);
        Check.due("hand(0, 1) by lot", x.hand(0, 1), 0);
        Check.due("hand(1, 1) by lot", x.hand(1, 1), -1);
        Check.refused("hand(2, 0)", Check.NO_SUCH, () -> x.hand(2, 0));
        Check.refused("hand(-1, 9)", Check.NO_SUCH, () -> x.hand(-1, 9));
        Check.refused("hand(0, -1)", Check.ARGUMENT, () -> x.hand(0, -1));
        Check.refused("hand(0, 3)", Check.ARGUMENT, () -> x.hand(0, 3));
    }

    private static void salts() {
        SugarDice x = Check.laid(SIX + SIX + "die 1 0 0 0 0 0 salt;hand 3;");
        Check.due("salts(1)", x.salts(1), true);
        Check.due("salts(1) again", x.salts(1), false);
        Check.due("salts(2) of salt", x.salts(2), false);
        Check.due("die(0, 8)", x.die(0, 8), 0);
        Check.due("die(1, 8)", x.die(1, 8), 1);
        Check.due("salt doesn't wear", x.shows(1, 0, 6), 21);
        Check.refused("salts(3)", Check.NO_SUCH, () -> x.salts(3) ? 1 : 0);
        Check.refused("salts(-1)", Check.NO_SUCH, () -> x.salts(-1) ? 1 : 0);
    }
}
