/** Promises 51 to 56: trays, images, counts. */
public final class TrayTest {
    private static final String TABLE = "ants 2;die 1 2 3 4 5 6;die 6 0 0 0 0 1 salt;die 0 0 4 0 0 4;hand 2;hand 0;";

    public static void main(String[] args) {
        trays();
        writing();
        pouring();
        images();
        imagesLeaveAlone();
        counts();
        Check.end();
    }

    private static long put(SugarDice x, int tray, int sort, int many) {
        x.tray(tray, sort, many);
        return 0;
    }

    private static void trays() {
        SugarDice x = new SugarDice();
        Check.refused("tray(4, 0, 1)", Check.NO_SUCH, () -> put(x, 4, 0, 1));
        Check.refused("tray(-1, 9, 99)", Check.NO_SUCH, () -> put(x, -1, 9, 99));
        Check.refused("tray(0, 4, 1)", Check.ARGUMENT, () -> put(x, 0, 4, 1));
        Check.refused("tray(0, -1, 1)", Check.ARGUMENT, () -> put(x, 0, -1, 1));
        Check.refused("tray(0, 0, 31)", Check.ARGUMENT, () -> put(x, 0, 0, 31));
        Check.refused("tray(0, 0, -1)", Check.ARGUMENT, () -> put(x, 0, 0, -1));
        Check.refused("still missing", Check.STATE, () -> x.pour(0));
        x.tray(3, 3, 30);
        Check.due("the last place", x.write(3, 29, 5), 5);
        x.tray(0, 0, 0);
        Check.refused("no place at all", Check.INDEX, () -> x.write(0, 0, 1));
        Check.fill(x, 1, 0, 3, 3);
        x.tray(1, 0, 2);
        Check.refused("a tray anew is of 0s", Check.ARGUMENT, () -> x.likelier(1));
        Check.fill(x, 1, 0, 3);
        x.tray(1, 0, 1);
        Check.refused("the first place, too", Check.ARGUMENT, () -> x.likelier(1));
        x.tray(1, 0, 5);
        Check.fill(x, 1, 2, 1, 2, 3);
        Check.refused("a tray anew has its own places", Check.INDEX, () -> x.write(1, 3, 1));
    }

    private static void writing() {
        SugarDice x = new SugarDice();
        long[] numbers = {0, 1, -1, 127, 128, 255, 256, -128, -129, 32767, 32768, 65535, -32769,
            2147483647L, 2147483648L, -2147483649L, 4294967295L, Long.MAX_VALUE, Long.MIN_VALUE};
        for (int sort = 0; sort < 4; sort++) {
            x.tray(sort, sort, 1);
            int bits = 64 - (8 << sort);
            for (long v : numbers) {
                Check.due("write of sort " + sort + ", " + v, x.write(sort, 0, v), v << bits >> bits);
            }
        }
        x.tray(0, 3, 2);
        Check.refused("write(4, 0, 1)", Check.NO_SUCH, () -> x.write(4, 0, 1));
        Check.refused("write(-1, 9, 1)", Check.NO_SUCH, () -> x.write(-1, 9, 1));
        Check.refused("write(0, 2, 1)", Check.INDEX, () -> x.write(0, 2, 1));
        Check.refused("write(0, -1, 1)", Check.INDEX, () -> x.write(0, -1, 1));
        Check.refused("write into a missing one", Check.STATE, () -> new SugarDice().write(0, 9, 1));
        SugarDice y = Check.laid(TABLE);
        y.tray(0, 0, 1);
        y.write(0, 0, 256 + 6);
        Check.due("it is there as it was cut", y.judge(0, 0), -1);
        y.tray(0, 1, 1);
        y.write(0, 0, 256 + 6);
        Check.due("and as it wasn't", y.judge(0, 0), 0);
    }

    private static void pouring() {
        SugarDice x = Check.laid(TABLE);
        x.shows(0, 0, 6);
        x.shows(1, 1, 1);
        x.shows(2, 0, 3);
        x.tray(0, 0, 2);
        Check.due("two places", x.pour(0), 2);
        Check.due("rows of faces 6, 1", x.fits(0), 3 * 2);
        x.tray(1, 3, 5);
        for (int i = 0; i < 5; i++) {
            x.write(1, i, 4);
        }
        Check.due("three throws", x.pour(1), 3);
        Check.due("rows of faces 6, 1, 3, 4, 4", x.fits(1), 3 * 2 * 2);
        x.tray(2, 0, 0);
        Check.due("no place", x.pour(2), 0);
        x.back(3);
        Check.due("no throws", x.pour(1), 0);
        Check.due("what was there stays", x.fits(1), 3 * 2 * 2);
        Check.refused("pour(4)", Check.NO_SUCH, () -> x.pour(4));
        Check.refused("pour(-1)", Check.NO_SUCH, () -> x.pour(-1));
        Check.refused("pour(3)", Check.STATE, () -> x.pour(3));
    }

    private static long restored(SugarDice x, int i) {
        x.restore(i);
        return 0;
    }

    private static long taken(SugarDice x, int i) {
        x.image(i);
        return 0;
    }

    private static void images() {
        SugarDice x = Check.laid(TABLE);
        for (int i = 0; i < 3; i++) {
            int one = i;
            Check.refused("none was made, " + i, Check.STATE, () -> restored(x, one));
        }
        x.lot(3);
        x.shows(0, 0, 6);
        x.salts(2);
        String ahead = Check.state(x);
        x.shows(2, 1, 3);
        String first = Check.state(x);
        x.image(0);
        x.back(1);
        Check.sameState("ahead", x, ahead);
        x.rain(2);
        x.image(1);
        String second = Check.state(x);
        Check.read(x, "die 1 1 1 1 1 1;ants 6;");
        x.image(2);
        String third = Check.state(x);
        x.restore(0);
        Check.sameState("restore(0)", x, first);
        Check.due("back behind restore", x.back(1), 1);
        Check.sameState("back behind restore", x, ahead);
        x.restore(2);
        Check.sameState("restore(2)", x, third);
        x.restore(1);
        Check.sameState("restore(1)", x, second);
        imagesStay();
        Check.refused("image(3)", Check.NO_SUCH, () -> taken(x, 3));
        Check.refused("image(-1)", Check.NO_SUCH, () -> taken(x, -1));
        Check.refused("restore(3)", Check.NO_SUCH, () -> restored(x, 3));
        Check.refused("restore(-1)", Check.NO_SUCH, () -> restored(x, -1));
        SugarDice y = new SugarDice();
        y.image(1);
        Check.read(y, TABLE);
        y.restore(1);
        Check.due("the image of a new one", y.count(1) + y.count(2) + y.count(0), 0);
    }

    private static void imagesStay() {
        SugarDice x = Check.laid(TABLE);
        x.lot(3);
        x.shows(0, 0, 6);
        x.shows(2, 1, 3);
        x.image(0);
        x.rain(2);
        x.image(1);
        String second = Check.state(x);
        x.ants(9);
        x.evening(8, 20);
        x.restore(1);
        Check.sameState("an image stays as it was", x, second);
        x.restore(0);
        Check.due("back of all", x.back(2), 0);
        x.image(0);
        String fourth = Check.state(x);
        x.cast(0, 0, 3);
        x.restore(0);
        Check.sameState("an image in place of another", x, fourth);
    }

    /** The tape, the fault and trays are neither in images nor undone by them or by back. */
    private static void imagesLeaveAlone() {
        SugarDice x = Check.laid(TABLE);
        x.image(0);
        x.shows(0, 0, 6);
        x.tray(0, 1, 1);
        x.write(0, 0, 6);
        Check.read(x, "hand 10;");
        x.feed(0x20202020, 0x20202020, 0x20202020, 0x20202020, 0x20202020);
        x.back(1);
        Check.due("the tape behind back", x.count(7), 20);
        Check.due("the fault behind back", x.fault(0), 3);
        Check.due("a tray behind back", x.fits(0), 3);
        x.restore(0);
        Check.due("the tape behind restore", x.count(7), 20);
        Check.due("the fault behind restore", x.fault(0), 3);
        Check.due("its place behind restore", x.fault(1), 5);
        Check.due("a tray behind restore", x.fits(0), 3);
    }

    private static void counts() {
        SugarDice x = Check.laid(TABLE);
        x.feed(1, 2, 3, 4, 5);
        x.cast(1, 0, 1);
        x.rain(4);
        int[] want = {6, 3, 2, 2, 1, 1, 1 + 2 + 7, 20};
        for (int what = 0; what < 8; what++) {
            Check.due("count(" + what + ")", x.count(what), want[what]);
        }
        x.rain(20);
        Check.due("count(5), two gone", x.count(5), 2);
        Check.due("count(8)", x.count(8), -1);
        Check.due("count(-1)", x.count(-1), -1);
        Check.due("count of the least", x.count(Integer.MIN_VALUE), -1);
    }
}
