/** Boundaries of the table's text (Terms) and of promises 1 to 7, each on both sides. */
public final class BoundsTableTest {
    private static final String SIX = "die 1 2 3 4 5 6;";
    private static final String HAND = "hand 1;";

    public static void main(String[] args) {
        atMost600Bytes();
        withoutATable();
        weights0To20();
        weightsNotAll0();
        heat0To9();
        antsPrefer1To6();
        laterAntsStrike();
        fiveDice();
        fourHands();
        oneToThreeDigits();
        everyByteAtALinesBegin();
        everyByteBehindANumber();
        everyByteInsideAWord();
        everyLetterOfAWord();
        everyTokenWhereItCantStand();
        tokensAsLongAsTheyGo();
        theFirstFaultAlongTheText();
        aFaultAheadOfAnyOther();
        ofOneTokenTheLeastKind();
        theEndIsTheTextsLength();
        bytesBehindTheTextAreNone();
        promise1ANewObject();
        promise2Feed();
        promise3Table();
        promise3NoThrowsNoLot();
        promise3AllStaysWithAFault();
        promise4Fault();
        promise5Die();
        promise6Hand();
        promise7Salts();
        Check.end();
    }

    private static void read(String text, int lines) {
        SugarDice x = new SugarDice();
        Check.due("table of <" + text + ">", Check.read(x, text), lines);
        Check.due("fault(0) of <" + text + ">", x.fault(0), 0);
        Check.due("fault(1) of <" + text + ">", x.fault(1), -1);
        Check.due("count(0) of <" + text + ">", x.count(0), lines);
    }

    private static void faulty(String text, int kind, int place) {
        SugarDice x = new SugarDice();
        Check.due("table of <" + text + ">", Check.read(x, text), -10 - kind);
        Check.due("fault(0) of <" + text + ">", x.fault(0), kind);
        Check.due("fault(1) of <" + text + ">", x.fault(1), place);
        Check.due("count(0) of <" + text + ">", x.count(0), 0);
    }

    /** "THE TABLE is a TEXT of at most 600 bytes" */
    private static void atMost600Bytes() {
        read("ants  1;".repeat(75), 75);
        read("ants 1;".repeat(85) + "     ", 85);
        read(" ".repeat(600), 0);
        read(" ".repeat(593) + "ants 2;", 1);
        faulty("ants  1;".repeat(75).substring(0, 599), 2, 599);
        faulty("ants 1;".repeat(85) + "ants ", 2, 600);
        faulty("ants 1;".repeat(85) + "    ?", 1, 599);
        faulty(" ".repeat(599) + ";", 2, 599);
        faulty(" ".repeat(599) + "0", 2, 599);
        faulty("a".repeat(600), 2, 0);
        faulty("1".repeat(600), 1, 0);
        faulty(";".repeat(600), 2, 0);
        faulty(" ".repeat(597) + "die", 2, 600);
    }

    /** "without one: no DICE, no HANDS, ants 5" */
    private static void withoutATable() {
        SugarDice x = new SugarDice();
        Check.due("dice", x.count(1), 0);
        Check.due("hands", x.count(2), 0);
        Check.due("ants", x.count(3), 5);
        Check.due("dice of an empty table", Check.read(x, SIX + HAND + "ants 1;"), 3);
        Check.due("an empty table", x.table(0), 0);
        Check.due("its dice", x.count(1), 0);
        Check.due("its hands", x.count(2), 0);
        Check.due("its ants", x.count(3), 5);
    }

    private static String dieWith(int face, String weight, String others) {
        StringBuilder s = new StringBuilder("die");
        for (int i = 1; i <= 6; i++) {
            s.append(' ').append(i == face ? weight : others);
        }
        return s.append(';').toString();
    }

    /** "WEIGHTS of its faces 1 to 6, each 0 to 20" */
    private static void weights0To20() {
        for (int face = 1; face <= 6; face++) {
            read(dieWith(face, "20", "1"), 1);
            read(dieWith(face, "0", "1"), 1);
            faulty(dieWith(face, "21", "1"), 3, 2 + 2 * face);
            faulty(dieWith(face, "999", "1"), 3, 2 + 2 * face);
            SugarDice most = Check.laid(dieWith(face, "20", "1"));
            Check.due("20 at face " + face, most.die(0, face), 20);
            Check.due("the total then", most.die(0, 7), 25);
            SugarDice least = Check.laid(dieWith(face, "0", "1"));
            Check.due("0 at face " + face, least.die(0, face), 0);
            Check.due("the total then", least.die(0, 7), 5);
        }
        read("die 20 20 20 20 20 20;", 1);
    }

    /** "not all 0 (the sixth 0, then: out of its bounds)" */
    private static void weightsNotAll0() {
        for (int face = 1; face <= 6; face++) {
            read(dieWith(face, "1", "0"), 1);
        }
        faulty("die 0 0 0 0 0 0;", 3, 14);
        faulty("die 0 0 0 0 0 00 salt;", 3, 14);
        faulty("die 0 0 0 0 0  000", 3, 15);
        faulty(SIX + "die 0 0 0 0 0 0;", 3, 30);
    }

    /** "hand: its HEAT 0 to 9" */
    private static void heat0To9() {
        for (int heat = 0; heat <= 9; heat++) {
            Check.due("heat " + heat, Check.laid("hand " + heat + ";").hand(0, 0), heat);
        }
        faulty("hand 10;", 3, 5);
        faulty("hand 99;", 3, 5);
        faulty("hand 999;", 3, 5);
        faulty("hand 010;", 3, 5);
        faulty(HAND + HAND + HAND + "hand 10;", 3, 26);
    }

    /** "ants: the face 1 to 6 they prefer" */
    private static void antsPrefer1To6() {
        for (int face = 1; face <= 6; face++) {
            Check.due("ants " + face, Check.laid("ants " + face + ";").count(3), face);
        }
        faulty("ants 0;", 3, 5);
        faulty("ants 7;", 3, 5);
        faulty("ants 000;", 3, 5);
        faulty("ants 999;", 3, 5);
    }

    /** "(later ones strike)" */
    private static void laterAntsStrike() {
        Check.due("two", Check.laid("ants 1;ants 2;").count(3), 2);
        Check.due("three", Check.laid("ants 6;" + SIX + "ants 1;" + HAND + "ants 3;").count(3), 3);
        Check.due("all of them are lines", Check.laid("ants 6;ants 6;ants 6;").count(0), 3);
    }

    /** "DICE, HANDS are numbered from 0 on as they come, 5, 4 at most"; "4 the first TOKEN of a 6th die, a 5th hand" */
    private static void fiveDice() {
        String five = "die 1 0 0 0 0 0;die 2 0 0 0 0 0;die 3 0 0 0 0 0;die 4 0 0 0 0 0;die 5 0 0 0 0 0;";
        SugarDice x = Check.laid(five);
        Check.due("five dice", x.count(1), 5);
        for (int d = 0; d < 5; d++) {
            Check.due("numbered as they come, " + d, x.die(d, 1), d + 1);
        }
        read(five + HAND + "ants 1;", 7);
        faulty(five + SIX, 4, 80);
        faulty(five + HAND + "\n" + SIX, 4, 88);
        faulty(five + "die", 4, 80);
        faulty(five + "die?", 4, 80);
        faulty(five + "die 21 0 0 0 0 0;", 4, 80);
        faulty(five + "die die", 4, 80);
        faulty(five.substring(0, 64) + "die 0 0 0 0 0 0;" + SIX, 3, 78);
    }

    private static void fourHands() {
        String four = "hand 1;hand 2;hand 3;hand 4;";
        SugarDice x = Check.laid(four);
        Check.due("four hands", x.count(2), 4);
        for (int h = 0; h < 4; h++) {
            Check.due("numbered as they come, " + h, x.hand(h, 0), h + 1);
        }
        read(four + SIX + "ants 1;", 6);
        faulty(four + HAND, 4, 28);
        faulty(four + SIX + " " + HAND, 4, 45);
        faulty(four + "hand", 4, 28);
        faulty(four + "hand?", 4, 28);
        faulty(four + "hand 10;", 4, 28);
        faulty(four.substring(0, 21) + "hand 10;hand 1;", 3, 26);
    }

    /** "N (1 to 3 digits)"; "1 no TOKEN begins so (4 digits and more: at their first)" */
    private static void oneToThreeDigits() {
        read("hand 1;", 1);
        read("hand 01;", 1);
        read("hand 001;", 1);
        read("hand 000;", 1);
        faulty("hand 0001;", 1, 5);
        faulty("hand 0000;", 1, 5);
        faulty("hand 1000;", 1, 5);
        faulty("hand 99999;", 1, 5);
        faulty("hand 4294967297;", 1, 5);
        faulty("hand 18446744073709551617;", 1, 5);
        faulty("hand 999;", 3, 5);
        faulty("die 001 002 003 004 005 0006;", 1, 24);
        read("die 001 002 003 004 005 006;", 1);
    }

    private static boolean isBlank(int sign) {
        return sign == 10 || sign == 32;
    }

    private static boolean isLetter(int sign) {
        return sign >= 97 && sign <= 122;
    }

    private static boolean isDigit(int sign) {
        return sign >= 48 && sign <= 57;
    }

    /** "between them blanks (10, 32): words (small letters), N (1 to 3 digits), the sign ;." */
    private static void everyByteAtALinesBegin() {
        for (int sign = 0; sign < 256; sign++) {
            String text = (char) sign + " " + HAND;
            if (isBlank(sign)) {
                read(text, 1);
            } else if (isLetter(sign) || isDigit(sign) || sign == 59) {
                faulty(text, 2, 0);
            } else {
                faulty(text, 1, 0);
            }
        }
    }

    private static void everyByteBehindANumber() {
        for (int sign = 0; sign < 256; sign++) {
            String text = "hand 3" + (char) sign + ";";
            if (isBlank(sign)) {
                read(text, 1);
            } else if (isDigit(sign)) {
                faulty(text, 3, 5);
            } else if (isLetter(sign)) {
                faulty(text, 2, 6);
            } else if (sign == 59) {
                faulty(text, 2, 7);
            } else {
                faulty(text, 1, 6);
            }
        }
    }

    private static void everyByteInsideAWord() {
        for (int sign = 0; sign < 256; sign++) {
            String text = "hand" + (char) sign + "3;";
            if (isBlank(sign)) {
                read(text, 1);
            } else if (isDigit(sign)) {
                SugarDice x = new SugarDice();
                Check.due("two digits, " + sign, Check.read(x, text), sign == 48 ? 1 : -13);
            } else if (isLetter(sign)) {
                faulty(text, 2, 0);
            } else if (sign == 59) {
                faulty(text, 2, 4);
            } else {
                faulty(text, 1, 4);
            }
        }
    }

    /** "LINE: die .. | hand N | ants N", "[ salt ]": a word with one letter changed is another word. */
    private static void everyLetterOfAWord() {
        String[] words = {"die", "hand", "ants", "salt"};
        String[] ahead = {"", "", "", "die 1 2 3 4 5 6 "};
        String[] behind = {" 1 2 3 4 5 6;", " 1;", " 1;", ";"};
        for (int i = 0; i < words.length; i++) {
            read(ahead[i] + words[i] + behind[i], 1);
            for (int at = 0; at < words[i].length(); at++) {
                for (char letter = 'a'; letter <= 'z'; letter++) {
                    if (letter != words[i].charAt(at)) {
                        String other = words[i].substring(0, at) + letter + words[i].substring(at + 1);
                        faulty(ahead[i] + other + behind[i], 2, ahead[i].length());
                    }
                }
            }
        }
    }

    /** "2 it can't stand there": behind each beginning of a line, each token but those that can. */
    private static void everyTokenWhereItCantStand() {
        String[] begun = {"", "hand 1; ", "die ", "die 1 ", "die 1 2 3 4 5 ", "die 0 0 0 0 0 ", "die 1 2 3 4 5 6 ",
            "die 1 2 3 4 5 6 salt ", "hand ", "hand 1 ", "ants ", "ants 1 "};
        String[] canStand = {"die hand ants", "die hand ants", "1 ", "1 ", "1 ", "1 ", "salt ; ", "; ", "1 ", "; ", "1 ", "; "};
        String[] tokens = {"die", "salt", "hand", "ants", "dies", "a", "1", ";"};
        for (int i = 0; i < begun.length; i++) {
            for (String token : tokens) {
                if (!java.util.Arrays.asList(canStand[i].split(" ")).contains(token)) {
                    faulty(begun[i] + token, 2, begun[i].length());
                    faulty(begun[i] + token + " 1 2 3 4 5 6;", 2, begun[i].length());
                    faulty(begun[i] + token + " 1;", 2, begun[i].length());
                    faulty(begun[i] + token + ";", 2, begun[i].length());
                }
            }
            if (i >= 2) {
                faulty(begun[i], 2, begun[i].length());
            }
        }
    }

    /** "TOKENS, as long as they go" */
    private static void tokensAsLongAsTheyGo() {
        read("die1 2 3 4 5 6salt;hand1;ants2;", 3);
        read("die 1 2 3 4 5 6;die 1 2 3 4 5 6 salt ;", 2);
        faulty("diesalt 1 2 3 4 5 6;", 2, 0);
        faulty("di e 1 2 3 4 5 6;", 2, 0);
        faulty("di", 2, 0);
        faulty("dies 1 2 3 4 5 6;", 2, 0);
        faulty("han 1;", 2, 0);
        faulty("hands 1;", 2, 0);
        faulty("ant 1;", 2, 0);
        faulty("antss 1;", 2, 0);
        faulty("die 1 2 3 4 5 6 sal;", 2, 16);
        faulty("die 1 2 3 4 5 6 salts;", 2, 16);
        faulty("hand12;", 3, 4);
        faulty("hand1 2;", 2, 6);
        faulty("die 123456;", 1, 4);
    }

    /** "FAULTS, the first along the text" */
    private static void theFirstFaultAlongTheText() {
        faulty("hand 10;?", 3, 5);
        faulty("?hand 10;", 1, 0);
        faulty("hand 1 1 10;?", 2, 7);
        faulty(HAND + HAND + HAND + HAND + "?hand", 1, 28);
        faulty(HAND + HAND + HAND + HAND + "hand?", 4, 28);
        faulty("die 0 0 0 0 0 0 0;", 3, 14);
        faulty("die 0 0 21 0 0 0;", 3, 8);
    }

    private static void aFaultAheadOfAnyOther() {
        String[] behind = {"", " ?", " dies", " 99", " 0001", ";", ";;", " ;", " ; ?", " 1 2 3 4 5 6 7;", " hand 10;", " die 0 0 0 0 0 0;"};
        for (String next : behind) {
            faulty("?" + next, 1, 0);
            faulty("hand 0001" + next, 1, 5);
            faulty("dies" + next, 2, 0);
            faulty("hand dies" + next, 2, 5);
            faulty("hand 10" + next, 3, 5);
            faulty("ants 0" + next, 3, 5);
            faulty("ants 7" + next, 3, 5);
            faulty("die 21" + next, 3, 4);
            faulty("die 0 0 0 0 0 0" + next, 3, 14);
            faulty("die 1 2 3 4 5 21" + next, 3, 14);
            faulty(SIX.repeat(5) + "die" + next, 4, 80);
            faulty(HAND.repeat(4) + "hand" + next, 4, 28);
        }
    }

    /** "of one TOKEN the least kind" */
    private static void ofOneTokenTheLeastKind() {
        faulty("hand 1 0001;", 1, 7);
        faulty("0000;", 1, 0);
        faulty("die 0 0 0 0 0 0000;", 1, 14);
        faulty("hand 1 999;", 2, 7);
        faulty("die 1 2 3 4 5 6 21;", 2, 16);
        faulty("99 hand;", 2, 0);
        faulty(SIX.repeat(5) + "hand die", 2, 85);
        faulty(HAND.repeat(4) + "die hand", 2, 32);
        faulty(SIX.repeat(5) + "dice", 2, 80);
    }

    /** "2 it can't stand there (the end: the text's length)" */
    private static void theEndIsTheTextsLength() {
        String text = "die 1 2 3 4 5 6 salt;";
        read(text.substring(0, 0), 0);
        faulty(text.substring(0, 1), 2, 0);
        faulty(text.substring(0, 2), 2, 0);
        for (int length = 3; length <= 20; length++) {
            boolean partOfSalt = length >= 17 && length <= 19;
            faulty(text.substring(0, length), 2, partOfSalt ? 16 : length);
        }
        read(text, 1);
        faulty("hand 1   ", 2, 9);
        faulty("hand 1\n", 2, 7);
        faulty("ants", 2, 4);
        faulty("ants 1", 2, 6);
        read("   ", 0);
    }

    /** What is on the tape behind the first n bytes, or was once, is not read. */
    private static void bytesBehindTheTextAreNone() {
        SugarDice x = new SugarDice();
        Check.fed(x, "hand 0001;");
        Check.due("three of four digits", x.table(8), -12);
        Check.due("its place", x.fault(1), 8);
        Check.fed(x, "hand 12;");
        Check.due("one of two digits", x.table(6), -12);
        Check.due("its place", x.fault(1), 6);
        Check.fed(x, "ants 1;hand");
        Check.due("the line alone", x.table(7), 1);
        Check.fed(x, "hands");
        Check.due("four of five letters", x.table(4), -12);
        Check.due("its place", x.fault(1), 4);
        Check.fed(x, "ants 1;?");
        Check.due("ahead of no token", x.table(7), 1);
        Check.fed(x, "ants 1;?");
        Check.due("with no token", x.table(8), -11);
    }

    /** "No DICE, no HANDS; TRAYS are MISSING; an empty tape." */
    private static void promise1ANewObject() {
        int[] counts = {0, 0, 0, 5, 0, 0, 0, 0};
        for (int what = 0; what < counts.length; what++) {
            int asked = what;
            Bounds.asked("count(" + what + ") of a new one", Bounds.NEW, counts[what], x -> x.count(asked));
        }
        Bounds.outside("die of a new one", Bounds.NEW, Check.NO_SUCH, (x, d) -> x.die(d, 1), -1, 0, 1);
        Bounds.outside("hand of a new one", Bounds.NEW, Check.NO_SUCH, (x, h) -> x.hand(h, 0), -1, 0, 1);
        Bounds.outside("past of a new one", Bounds.NEW, Check.NO_SUCH, (x, k) -> x.past(k, 0), -1, 0, 1);
        for (int i = 0; i < 4; i++) {
            int tray = i;
            Bounds.refused("pour of a new one, " + i, Bounds.NEW, Check.STATE, x -> x.pour(tray));
        }
        for (int i = 0; i < 3; i++) {
            int image = i;
            Bounds.refused("restore of a new one, " + i, Bounds.NEW, Check.STATE, x -> {
                x.restore(image);
                return 0;
            });
        }
        Bounds.asked("back(0) of a new one", Bounds.NEW, 0, x -> x.back(0));
        Bounds.taken("table(0) of a new one", Bounds.NEW, 0, x -> x.table(0));
    }

    private static int feedOf(SugarDice x, int sign) {
        int four = sign * 0x01010101;
        return x.feed(four, four, four, four, four);
    }

    private static SugarDice fedWith(int feeds) {
        SugarDice x = Bounds.FULL.make();
        x.table(0);
        Check.fed(x, "hand 4;");
        for (int i = 1; i < feeds; i++) {
            feedOf(x, 32);
        }
        return x;
    }

    /** "how many it has; NONE, and nothing changes, if there would be more than 600" */
    private static void promise2Feed() {
        for (int feeds = 1; feeds < 30; feeds++) {
            int many = feeds;
            Bounds.taken("a feed behind " + many, () -> fedWith(many), 20 * many + 20, x -> feedOf(x, 59));
        }
        Bounds.asked("a feed behind 600 bytes", () -> fedWith(30), -1, x -> feedOf(x, 59));
        Bounds.taken("the 600 are read", () -> fedWith(30), 1, x -> x.table(600));
        Bounds.taken("the last 20 came, too", () -> fedWith(29), -12, x -> {
            feedOf(x, 59);
            return x.table(581);
        });
        Bounds.taken("they are the last", () -> fedWith(29), 1, x -> {
            feedOf(x, 59);
            return x.table(580);
        });
        Bounds.taken("a feed behind a table", () -> fedWith(30), 20, x -> {
            x.table(600);
            return feedOf(x, 32);
        });
        Bounds.taken("a feed behind a faulty table", () -> fedWith(30), 20, x -> {
            x.table(3);
            return feedOf(x, 32);
        });
        everyPlaceOfAFeed();
    }

    /** "the highest of each int first": a sign that is no token, at each of the twenty places. */
    private static void everyPlaceOfAFeed() {
        for (int place = 0; place < 20; place++) {
            for (int sign : new int[] {0, 1, 63, 127, 128, 255}) {
                int[] ints = {0x20202020, 0x20202020, 0x20202020, 0x20202020, 0x20202020};
                int shift = 24 - place % 4 * 8;
                ints[place / 4] = ints[place / 4] & ~(255 << shift) | sign << shift;
                SugarDice x = new SugarDice();
                x.feed(ints[0], ints[1], ints[2], ints[3], ints[4]);
                Check.due("sign " + sign + " at " + place, x.table(20), -11);
                Check.due("its place, " + place, x.fault(1), place);
            }
        }
    }

    /** "IllegalArgumentException: n is below 0 or above what it has" */
    private static void promise3Table() {
        Bounds.outside("table of 20 bytes", Bounds.FULL, Check.ARGUMENT, (x, n) -> x.table(n), -1, 21);
        Bounds.taken("table(20) of 20 bytes", Bounds.FULL, 1, x -> x.table(20));
        Bounds.taken("table(19) of 20 bytes", Bounds.FULL, 1, x -> x.table(19));
        Bounds.taken("table(0) of 20 bytes", Bounds.FULL, 0, x -> x.table(0));
        Bounds.outside("table of an empty tape", Bounds.NEW, Check.ARGUMENT, (x, n) -> x.table(n), -1, 1);
        Bounds.taken("table(0) of an empty tape", Bounds.NEW, 0, x -> x.table(0));
        Bounds.outside("table of 600 bytes", () -> fedWith(30), Check.ARGUMENT, (x, n) -> x.table(n), -1, 601);
        Bounds.taken("table(600) of 600 bytes", () -> fedWith(30), 1, x -> x.table(600));
        for (int n : new int[] {0, 7, 20}) {
            Bounds.taken("tape behind table(" + n + ")", Bounds.FULL, 0, x -> {
                x.table(n);
                return x.count(7);
            });
        }
        Bounds.taken("tape behind a faulty table", Bounds.FULL, 0, x -> {
            x.table(6);
            return x.count(7);
        });
    }

    /** "The first n bytes .. are THE TABLE, no THROWS, no LOT" */
    private static void promise3NoThrowsNoLot() {
        SugarDice x = Bounds.FULL.make();
        x.lot(1);
        Check.due("a table anew", x.table(7), 1);
        Check.due("no throws", x.count(4), 0);
        Check.refused("back(1)", Check.ARGUMENT, () -> x.back(1));
        Check.due("no lot", x.hand(0, 1), -1);
        Check.due("its throws", x.hand(0, 2), 0);
        Check.due("its heat", x.hand(0, 0), 7);
        SugarDice same = Check.laid(SIX + HAND);
        same.shows(0, 0, 6);
        same.lot(1);
        same.salts(0);
        Check.due("the same table again", Check.read(same, SIX + HAND), 2);
        Check.same("the same table again", Check.state(same), Check.state(Check.laid(SIX + HAND)));
    }

    /** "-10 less the FAULT (all stays)" */
    private static void promise3AllStaysWithAFault() {
        String[] faulty = {"?", "hand", "hand 10;", HAND.repeat(5), SIX.repeat(3) + "ants 1;" + HAND + "?"};
        int[] kinds = {1, 2, 3, 4, 1};
        for (int i = 0; i < faulty.length; i++) {
            SugarDice x = Bounds.FULL.make();
            x.table(0);
            x.restore(2);
            String was = Check.state(x);
            Check.due("table of <" + faulty[i] + ">", Check.read(x, faulty[i]), -10 - kinds[i]);
            Check.sameState("behind <" + faulty[i] + ">", x, was);
            Check.due("a throw can still be undone", x.back(1), 2);
        }
    }

    /** "Of the latest table() that threw nothing"; "0 without, and at first"; "NONE for others" */
    private static void promise4Fault() {
        Bounds.asked("fault(0) at first", Bounds.NEW, 0, x -> x.fault(0));
        Bounds.asked("fault(1) at first", Bounds.NEW, -1, x -> x.fault(1));
        for (int what : new int[] {-1, 2, 3, Integer.MIN_VALUE, Integer.MAX_VALUE}) {
            Bounds.asked("fault(" + what + ") at first", Bounds.NEW, -1, x -> x.fault(what));
            Bounds.asked("fault(" + what + ") of one", Bounds.FULL, -1, x -> x.fault(what));
        }
        Bounds.asked("fault(0) of one", Bounds.FULL, 3, x -> x.fault(0));
        Bounds.asked("fault(1) of one", Bounds.FULL, 5, x -> x.fault(1));
        SugarDice x = Bounds.FULL.make();
        Check.refused("table(21)", Check.ARGUMENT, () -> x.table(21));
        Check.due("fault(0) behind a table that threw", x.fault(0), 3);
        Check.due("fault(1) behind a table that threw", x.fault(1), 5);
        Check.due("table(0)", x.table(0), 0);
        Check.due("fault(0) behind one without", x.fault(0), 0);
        Check.due("fault(1) behind one without", x.fault(1), -1);
        Check.due("at place 0", Check.read(x, "?"), -11);
        Check.due("fault(1) at place 0", x.fault(1), 0);
        Check.due("a later one", Check.read(x, "hand"), -12);
        Check.due("fault(0) of the later one", x.fault(0), 2);
        Check.due("fault(1) of the later one", x.fault(1), 4);
    }

    /** "what 1 to 6 .. 10"; "1 if salt"; "1 if GONE (else 0)"; "no such DIE"; "another what" */
    private static void promise5Die() {
        int[][] want = {{1, 2, 3, 4, 5, 6, 21, 0, 0, 1}, {6, 0, 0, 0, 0, 1, 7, 1, 0, 1}, {0, 0, 0, 0, 0, 0, 0, 0, 1, 1}};
        for (int d = 0; d < 3; d++) {
            int die = d;
            for (int what = 1; what <= 10; what++) {
                int asked = what;
                Bounds.asked("die(" + d + ", " + what + ")", Bounds.FULL, want[d][what - 1], x -> x.die(die, asked));
            }
            Bounds.outside("die(" + d + ", ..)", Bounds.FULL, Check.ARGUMENT, (x, what) -> x.die(die, what), -1, 0, 11);
        }
        Bounds.outside("die(.., 1)", Bounds.FULL, Check.NO_SUCH, (x, d) -> x.die(d, 1), -1, 3, 4, 5);
        Bounds.outside("die(.., 0)", Bounds.FULL, Check.NO_SUCH, (x, d) -> x.die(d, 0), -1, 3);
        Bounds.outside("die(.., 11)", Bounds.FULL, Check.NO_SUCH, (x, d) -> x.die(d, 11), -1, 3);
        SugarDice five = Check.laid(SIX.repeat(5));
        Check.due("the fifth", five.die(4, 7), 21);
        Check.refused("a sixth", Check.NO_SUCH, () -> five.die(5, 7));
        SugarDice one = Check.laid("die 0 0 0 0 0 2;hand 1;");
        one.shows(0, 0, 6);
        Check.due("a weight of 1 is not gone", one.die(0, 9), 0);
        one.shows(0, 0, 6);
        Check.due("a weight of 0 is gone", one.die(0, 9), 1);
        Bounds.asked("thrown 60 times", Bounds.SIXTY, 60, x -> x.die(0, 10));
    }

    /** "what 0: HEAT, 1: the DIE it has by LOT (NONE), 2: how often it threw" */
    private static void promise6Hand() {
        Bounds.Setup noLot = Bounds.of(SIX + HAND + HAND);
        Bounds.Setup lot = () -> {
            SugarDice x = Check.laid(SIX + HAND + HAND);
            x.lot(1);
            return x;
        };
        Bounds.asked("hand(0, 1) without a lot", noLot, -1, x -> x.hand(0, 1));
        Bounds.asked("hand(0, 1) by lot", lot, 0, x -> x.hand(0, 1));
        Bounds.asked("hand(1, 1) of too few dice", lot, -1, x -> x.hand(1, 1));
        Bounds.asked("hand(0, 0)", Bounds.FULL, 4, x -> x.hand(0, 0));
        Bounds.asked("hand(1, 0)", Bounds.FULL, 1, x -> x.hand(1, 0));
        Bounds.asked("hand(0, 2)", Bounds.FULL, 2, x -> x.hand(0, 2));
        Bounds.asked("hand(1, 2)", Bounds.FULL, 1, x -> x.hand(1, 2));
        Bounds.asked("hand(0, 2) of none", noLot, 0, x -> x.hand(0, 2));
        Bounds.asked("hand(0, 2) of 60", Bounds.SIXTY, 60, x -> x.hand(0, 2));
        Bounds.outside("hand(0, ..)", Bounds.FULL, Check.ARGUMENT, (x, what) -> x.hand(0, what), -1, 3);
        Bounds.outside("hand(1, ..)", Bounds.FULL, Check.ARGUMENT, (x, what) -> x.hand(1, what), -1, 3);
        Bounds.outside("hand(.., 0)", Bounds.FULL, Check.NO_SUCH, (x, h) -> x.hand(h, 0), -1, 2, 3, 4);
        Bounds.outside("hand(.., 3)", Bounds.FULL, Check.NO_SUCH, (x, h) -> x.hand(h, 3), -1, 2);
        SugarDice four = Check.laid(HAND.repeat(4));
        Check.due("the fourth", four.hand(3, 0), 1);
        Check.refused("a fifth", Check.NO_SUCH, () -> four.hand(4, 0));
    }

    /** "A DIE is salt from now on: whether it was not." */
    private static void promise7Salts() {
        Bounds.taken("salts of sugar", Bounds.FULL, 1, x -> x.salts(0) ? 1 : 0);
        Bounds.asked("salts of salt", Bounds.FULL, 0, x -> x.salts(1) ? 1 : 0);
        Bounds.taken("salts of a gone one", Bounds.FULL, 1, x -> x.salts(2) ? 1 : 0);
        Bounds.taken("salts twice", Bounds.FULL, 0, x -> x.salts(0) && x.salts(0) ? 1 : 0);
        Bounds.outside("salts", Bounds.FULL, Check.NO_SUCH, (x, d) -> x.salts(d) ? 1 : 0, -1, 3, 4, 5);
        for (int d = 0; d < 5; d++) {
            SugarDice x = Check.laid(SIX.repeat(5));
            x.salts(d);
            for (int other = 0; other < 5; other++) {
                Check.due("salt is the one alone", x.die(other, 8), other == d ? 1 : 0);
            }
        }
    }
}
