/** Boundaries of trays and images (Terms) and of promises 51 to 56, each on both sides. */
public final class BoundsTrayTest {
    public static void main(String[] args) {
        promise51Tray();
        promise51ARowOf0s();
        promise51Refused();
        promise52Write();
        promise52CutToItsSort();
        promise52Refused();
        promise53Pour();
        promise53AsManyAsItHasPlaces();
        promise53Refused();
        promise54Image();
        promise55Restore();
        promise55AllIsAsInAnImage();
        promise55ItsOwnThrows();
        promise55AllButTheTapeTheFaultAndTrays();
        promise56Count();
        Check.end();
    }

    private static Bounds.On tray(int tray, int sort, int many) {
        return x -> {
            x.tray(tray, sort, many);
            return 0;
        };
    }

    private static Bounds.On image(int i) {
        return x -> {
            x.image(i);
            return 0;
        };
    }

    private static Bounds.On restore(int i) {
        return x -> {
            x.restore(i);
            return 0;
        };
    }

    /** "TRAYS 0 to 3 are MISSING at first, or rows of 0 to 30 numbers of 8 bits (sort 0), 16 (1), 32 (2), 64 (3)." */
    private static void promise51Tray() {
        for (int i = 0; i < 4; i++) {
            int tray = i;
            Bounds.refused("tray " + i + " is missing at first", Bounds.NEW, Check.STATE, x -> x.pour(tray));
            for (int sort = 0; sort <= 3; sort++) {
                for (int many : new int[] {0, 1, 29, 30}) {
                    SugarDice x = Bounds.FULL.make();
                    x.tray(tray, sort, many);
                    placesOf(x, tray, many);
                }
            }
            for (int other = 0; other < 4; other++) {
                SugarDice x = new SugarDice();
                x.tray(tray, 0, 1);
                int asked = other;
                if (other == tray) {
                    Check.due("the tray itself", x.write(other, 0, 1), 1);
                } else {
                    Check.refused("the others are missing still", Check.STATE, () -> x.write(asked, 0, 1));
                }
            }
        }
    }

    private static void placesOf(SugarDice x, int tray, int many) {
        Check.refused("a place below the first of " + many, Check.INDEX, () -> x.write(tray, -1, 1));
        Check.refused("a place behind the last of " + many, Check.INDEX, () -> x.write(tray, many, 1));
        if (many > 0) {
            Check.due("the first place of " + many, x.write(tray, 0, 1), 1);
            Check.due("the last place of " + many, x.write(tray, many - 1, 2), 2);
        }
    }

    /** "A TRAY is a row of so many 0s." */
    private static void promise51ARowOf0s() {
        for (int many = 1; many <= 5; many++) {
            for (int place = 0; place < many; place++) {
                SugarDice x = Check.laid("die 1 1 1 1 1 1;");
                Check.fill(x, 1, 0, 6, 6, 6, 6, 6);
                x.tray(1, 0, many);
                for (int other = 0; other < many; other++) {
                    if (other != place) {
                        x.write(1, other, 6);
                    }
                }
                Check.refused("a 0 from the first at " + place + " of " + many, Check.ARGUMENT, () -> x.fits(1));
                x.write(1, place, 6);
                Check.due("a face there", x.fits(1), 1);
                x.write(1, place, 0);
                Check.refused("a 0 again at " + place + " of " + many, Check.ARGUMENT, () -> x.fits(1));
            }
        }
        SugarDice x = Check.laid("die 1 1 1 1 1 1;hand 0;");
        Check.fill(x, 0, 0, 1, 2, 3);
        x.tray(0, 0, 1);
        x.tray(0, 0, 3);
        x.write(0, 0, 1);
        Check.due("laid shorter, then longer: 0s", x.judge(0, 0), 1);
        x.write(0, 1, 1);
        Check.due("0s to its end", x.judge(0, 0), 2);
    }

    /** "NoSuchElementException: no such TRAY; IllegalArgumentException: no such sort, or not so many" */
    private static void promise51Refused() {
        Bounds.outside("tray(.., 0, 1)", Bounds.FULL, Check.NO_SUCH, (x, t) -> tray(t, 0, 1).answer(x), -1, 4, 5);
        Bounds.outside("tray(.., 4, 1)", Bounds.FULL, Check.NO_SUCH, (x, t) -> tray(t, 4, 1).answer(x), -1, 4);
        Bounds.outside("tray(.., 0, 31)", Bounds.FULL, Check.NO_SUCH, (x, t) -> tray(t, 0, 31).answer(x), -1, 4);
        for (int i = 0; i < 4; i++) {
            int t = i;
            String of = "tray(" + i;
            Bounds.outside(of + ", .., 1)", Bounds.FULL, Check.ARGUMENT, (x, sort) -> tray(t, sort, 1).answer(x), -1, 4);
            Bounds.outside(of + ", .., 31)", Bounds.FULL, Check.ARGUMENT, (x, sort) -> tray(t, sort, 31).answer(x), -1, 4);
            Bounds.outside(of + ", 0, ..)", Bounds.FULL, Check.ARGUMENT, (x, many) -> tray(t, 0, many).answer(x), -1, 31, 32);
            Bounds.outside(of + ", 3, ..)", Bounds.FULL, Check.ARGUMENT, (x, many) -> tray(t, 3, many).answer(x), -1, 31);
            Bounds.outside(of + ", 4, ..)", Bounds.FULL, Check.ARGUMENT, (x, many) -> tray(t, 4, many).answer(x), -1, 31);
        }
    }

    /** "A number comes to a place of a TRAY, cut to its sort: as it is there." */
    private static void promise52Write() {
        Bounds.taken("the first place", Bounds.FULL, 7, x -> x.write(0, 0, 7));
        Bounds.taken("the last place", Bounds.FULL, -7, x -> x.write(0, 2, -7));
        for (int place = 0; place < 30; place++) {
            SugarDice x = Check.laid("die 1 1 1 1 1 1 salt;hand 0;");
            x.tray(0, 0, 30);
            for (int other = 0; other < 30; other++) {
                x.write(0, other, 1);
            }
            x.write(0, place, 2);
            Check.due("all but one", x.perform(0), 30);
            for (int other = 0; other < 30; other++) {
                Check.due("place " + other + ", written " + place, x.past(other, 2), other == place ? 2 : 1);
            }
        }
    }

    private static void promise52CutToItsSort() {
        int[] bits = {8, 16, 32, 64};
        for (int sort = 0; sort < 4; sort++) {
            long most = (1L << bits[sort] - 1) - 1;
            long least = -most - 1;
            cut(sort, 0, 0);
            cut(sort, -1, -1);
            cut(sort, most, most);
            cut(sort, most + 1, least);
            cut(sort, least, least);
            cut(sort, least - 1, most);
            if (sort < 3) {
                long round = 1L << bits[sort];
                cut(sort, round, 0);
                cut(sort, round - 1, -1);
                cut(sort, round + 6, 6);
                cut(sort, -round, 0);
                cut(sort, 6 - round, 6);
                cut(sort, Long.MAX_VALUE, -1);
                cut(sort, Long.MIN_VALUE, 0);
            }
        }
    }

    private static void cut(int sort, long v, long want) {
        SugarDice x = Check.laid("die 1 1 1 1 1 1;hand 0;");
        x.tray(3, sort, 2);
        x.write(3, 1, 1);
        Check.due("write of " + v + " by sort " + sort, x.write(3, 0, v), want);
        Check.due("and so it is there", x.perform(3), want >= 1 && want <= 6 ? 2 : 0);
    }

    /** "IllegalStateException: it is MISSING; IndexOutOfBoundsException: it has no such place" */
    private static void promise52Refused() {
        Bounds.outside("write(.., 0, 1)", Bounds.FULL, Check.NO_SUCH, (x, t) -> x.write(t, 0, 1), -1, 4, 5);
        Bounds.outside("write(.., -1, 1)", Bounds.FULL, Check.NO_SUCH, (x, t) -> x.write(t, -1, 1), -1, 4);
        Bounds.refused("write into a missing one", Bounds.FULL, Check.STATE, x -> x.write(3, 0, 1));
        Bounds.outside("write into a missing one", Bounds.FULL, Check.STATE, (x, place) -> x.write(3, place, 1), -1, 30);
        Bounds.outside("write into three places", Bounds.FULL, Check.INDEX, (x, place) -> x.write(0, place, 1), -1, 3, 4, 29, 30);
        Bounds.outside("write into two places", Bounds.FULL, Check.INDEX, (x, place) -> x.write(1, place, 1), -1, 2, 3);
        Bounds.outside("write into no places", Bounds.FULL, Check.INDEX, (x, place) -> x.write(2, place, 1), -1, 0, 1);
    }

    /** "Faces of all THROWS, the first first .. as many as it has places: how many." */
    private static void promise53Pour() {
        Bounds.taken("three throws, three places", Bounds.FULL, 3, x -> x.pour(0));
        Bounds.taken("three throws, two places", Bounds.FULL, 2, x -> x.pour(1));
        Bounds.asked("three throws, no place", Bounds.FULL, 0, x -> x.pour(2));
        Bounds.taken("three throws, four places", Bounds.FULL, 3, x -> {
            x.tray(3, 0, 4);
            return x.pour(3);
        });
        Bounds.taken("no throws", Bounds.FULL, 0, x -> {
            x.back(3);
            return x.pour(0);
        });
        SugarDice x = Bounds.FULL.make();
        x.pour(0);
        x.back(3);
        x.fan(0);
        Check.due("they are 3, 6, 1", x.perform(0), 3);
        int[] faces = {3, 6, 1};
        for (int k = 0; k < 3; k++) {
            Check.due("the " + k + "-th face", x.past(k, 2), faces[k]);
        }
    }

    private static void promise53AsManyAsItHasPlaces() {
        for (int thrown : new int[] {0, 1, 29, 30, 31, 60}) {
            for (int many : new int[] {0, 1, 29, 30}) {
                SugarDice x = Check.laid("die 1 1 1 1 1 1 salt;hand 0;");
                for (int k = 0; k < thrown; k++) {
                    x.shows(0, 0, k % 6 + 1);
                }
                x.tray(0, 1, many);
                for (int place = 0; place < many; place++) {
                    x.write(0, place, 1);
                }
                int poured = Math.min(thrown, many);
                Check.due("pour of " + thrown + " into " + many, x.pour(0), poured);
                x.back(thrown);
                Check.due("all are faces", x.perform(0), many);
                for (int place = 0; place < many; place++) {
                    Check.due("place " + place, x.past(place, 2), place < poured ? place % 6 + 1 : 1);
                }
            }
        }
    }

    private static void promise53Refused() {
        Bounds.outside("pour", Bounds.FULL, Check.NO_SUCH, (x, t) -> x.pour(t), -1, 4, 5);
        Bounds.refused("pour into a missing one", Bounds.FULL, Check.STATE, x -> x.pour(3));
        Bounds.outside("pour at 60", Bounds.SIXTY, Check.NO_SUCH, (x, t) -> x.pour(t), -1, 4);
        Bounds.refused("pour at 60 into a missing one", Bounds.SIXTY, Check.STATE, x -> x.pour(3));
    }

    /** "An IMAGE is made. NoSuchElementException: no such one." */
    private static void promise54Image() {
        Bounds.outside("image", Bounds.FULL, Check.NO_SUCH, (x, i) -> image(i).answer(x), -1, 3, 4);
        Bounds.outside("image of a new one", Bounds.NEW, Check.NO_SUCH, (x, i) -> image(i).answer(x), -1, 3);
        for (int i = 0; i < 3; i++) {
            SugarDice x = Bounds.FULL.make();
            String was = Check.state(x);
            x.image(i);
            Check.sameState("an image leaves all as it is", x, was);
            x.table(0);
            x.restore(i);
            Check.sameState("image " + i, x, was);
        }
        SugarDice x = new SugarDice();
        x.image(2);
        Check.refused("image 0 is none still", Check.STATE, () -> restore(0).answer(x));
        Check.refused("image 1 is none still", Check.STATE, () -> restore(1).answer(x));
        x.restore(2);
        Check.same("an image of a new one", Check.state(x), Check.state(new SugarDice()));
    }

    /** "NoSuchElementException: no such one; IllegalStateException: none was made" */
    private static void promise55Restore() {
        Bounds.outside("restore", Bounds.FULL, Check.NO_SUCH, (x, i) -> restore(i).answer(x), -1, 3, 4);
        Bounds.outside("restore of a new one", Bounds.NEW, Check.NO_SUCH, (x, i) -> restore(i).answer(x), -1, 3);
        Bounds.refused("restore(1), which was not made", Bounds.FULL, Check.STATE, restore(1));
        for (int i = 0; i < 3; i++) {
            Bounds.refused("restore(" + i + ") of a new one", Bounds.NEW, Check.STATE, restore(i));
            Bounds.refused("restore(" + i + ") behind 60 throws", Bounds.SIXTY, Check.STATE, restore(i));
        }
        Bounds.taken("restore(0)", Bounds.FULL, 0, x -> {
            x.restore(0);
            return x.count(4);
        });
        Bounds.asked("restore(2), which is as it stands", Bounds.FULL, 0, restore(2));
    }

    /** "All is as in an IMAGE": made at no throws, at one, at 60, and each time it is asked for. */
    private static void promise55AllIsAsInAnImage() {
        for (int thrown : new int[] {0, 1, 59, 60}) {
            String was = Check.state(thrownTo(thrown));
            SugarDice once = thrownTo(thrown);
            once.image(1);
            Check.read(once, "die 1 0 0 0 0 0;");
            once.restore(1);
            Check.sameState("restored at " + thrown, once, was);
            SugarDice again = thrownTo(thrown);
            again.image(1);
            Check.read(again, "die 1 0 0 0 0 0;");
            again.restore(1);
            again.rain(20);
            again.fan(1);
            again.salts(0);
            again.lot(12345);
            again.back(thrown);
            again.restore(1);
            Check.sameState("restored again at " + thrown, again, was);
            Check.due("undone from there", again.back(thrown), 0);
            Check.due("its weights then", again.die(0, 7), 120);
        }
    }

    private static SugarDice thrownTo(int many) {
        SugarDice x = Check.laid("ants 4;die 20 20 20 20 20 20;die 6 0 0 0 0 1 salt;hand 0;hand 9;");
        for (int k = 0; k < many; k++) {
            x.lot(k);
            x.shows(k < 6 ? 0 : 1, k % 2, k % 2 * 5 + 1);
        }
        return x;
    }

    /** Throws that were made since the image are not in it, and those that were are undone as they were made. */
    private static void promise55ItsOwnThrows() {
        for (int k : new int[] {0, 1, 5, 6, 30, 58, 59}) {
            SugarDice x = thrownTo(60);
            x.image(0);
            x.back(60);
            x.evening(k, 40);
            x.evening(k + 1, 40);
            x.restore(0);
            Check.due("back to throw " + k, x.back(60 - k), k);
            SugarDice y = thrownTo(k);
            y.lot(k);
            Check.sameState("as it was ahead of throw " + k, x, Check.state(y));
        }
    }

    /** "IMAGES 0 to 2: all but the tape, the FAULT and TRAYS, as it was" */
    private static void promise55AllButTheTapeTheFaultAndTrays() {
        SugarDice x = Bounds.FULL.make();
        Check.due("a tape", Check.fed(x, "ants 3;"), 40);
        x.restore(0);
        Check.due("the tape stays", x.count(7), 40);
        Check.due("the fault stays", x.fault(0), 3);
        Check.due("its place stays", x.fault(1), 5);
        Check.due("tray 0 stays", x.judge(0, 0), -1);
        Check.due("tray 1 stays", x.write(1, 1, 3), 3);
        Check.refused("tray 2 stays", Check.INDEX, () -> x.write(2, 0, 1));
        Check.refused("tray 3 stays", Check.STATE, () -> x.write(3, 0, 1));
        Check.due("the tape is read", x.table(40), 2);
        Check.due("it is the tape's", x.count(3), 3);
        x.restore(2);
        Check.due("no fault stays", x.fault(0), 0);
        Check.due("an empty tape stays", x.count(7), 0);
        Check.due("the image's throws", x.count(4), 3);
    }

    /** "0 LINES .. 7 bytes on the tape; NONE for others" */
    private static void promise56Count() {
        int[] want = {6, 3, 2, 6, 3, 1, 28, 20};
        for (int what = 0; what <= 7; what++) {
            int asked = what;
            Bounds.asked("count(" + what + ")", Bounds.FULL, want[what], x -> x.count(asked));
        }
        for (int what : new int[] {-1, -2, 8, 9, Integer.MIN_VALUE, Integer.MAX_VALUE}) {
            Bounds.asked("count(" + what + ")", Bounds.FULL, -1, x -> x.count(what));
            Bounds.asked("count(" + what + ") of a new one", Bounds.NEW, -1, x -> x.count(what));
        }
        Bounds.asked("60 throws", Bounds.SIXTY, 60, x -> x.count(4));
        Bounds.Setup most = Bounds.of("die 20 20 20 20 20 20;".repeat(5) + "hand 1;".repeat(4));
        int[] full = {9, 5, 4, 5, 0, 0, 600, 0};
        for (int what = 0; what <= 7; what++) {
            int asked = what;
            Bounds.asked("count(" + what + ") of the most", most, full[what], x -> x.count(asked));
        }
        Bounds.taken("all are gone", most, 5, x -> {
            x.rain(20);
            return x.count(5);
        });
        Bounds.taken("no weight is left", most, 0, x -> {
            x.rain(20);
            return x.count(6);
        });
        Bounds.taken("none is gone yet", most, 0, x -> {
            x.rain(19);
            return x.count(5);
        });
    }
}
