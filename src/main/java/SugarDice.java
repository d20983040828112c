import java.util.NoSuchElementException;

/** Dice of sugar on a table: thrown, worn, eaten, and what can be said of them exactly. */
public final class SugarDice {
    public static final int NONE = -1;

    private static final int FACES = 6;
    private static final int MOST_DICE = 5;
    private static final int MOST_HANDS = 4;
    private static final int MOST_THROWS = 60;
    private static final int MOST_WEIGHT = 20;
    private static final int MOST_HEAT = 9;
    private static final int ANTS_FACE_AT_FIRST = 5;
    private static final int MOST_BYTES = 600;
    private static final int BYTES_A_FEED = 20;
    private static final int MOST_SUM = FACES * MOST_DICE;
    private static final int MOST_NUMBERS = 30;
    private static final int MOST_TOLD_FACES = 5;
    private static final int FACE_SETS = 1 << FACES;
    private static final int TRAYS = 4;
    private static final int IMAGES = 3;

    // All that a call can change between two throws stands in one row, so that a throw is undone by one copy.
    private static final int SALTS_AT = FACES * MOST_DICE;
    private static final int HEATS_AT = SALTS_AT + 1;
    private static final int LOTS_AT = HEATS_AT + MOST_HANDS;
    private static final int CELLS = LOTS_AT + MOST_HANDS;

    private final Tape tape;
    private final TableText text;
    private final Game game;
    private final Draws draws;
    private final Odds odds;
    private final Beating beating;
    private final Witness witness;
    private final Ledger ledger;
    private final Tray[] trays;
    private final Game[] images;

    public SugarDice() {
        tape = new Tape();
        text = new TableText(tape);
        game = new Game();
        draws = new Draws();
        odds = new Odds(game);
        beating = new Beating(game);
        witness = new Witness(game);
        ledger = new Ledger(game);
        trays = new Tray[TRAYS];
        for (int i = 0; i < TRAYS; i++) {
            trays[i] = new Tray();
        }
        images = new Game[IMAGES];
    }

    // ---- the table

    public int feed(int a, int b, int c, int d, int e) {
        if (!tape.hasRoomForFeed()) {
            return NONE;
        }
        tape.put(a);
        tape.put(b);
        tape.put(c);
        tape.put(d);
        tape.put(e);
        return tape.length;
    }

    public int table(int n) throws IllegalArgumentException {
        if (n < 0 || n > tape.length) {
            throw new IllegalArgumentException("the tape has not so many bytes");
        }
        text.read(n);
        tape.length = 0;
        if (text.faultKind != 0) {
            return -10 - text.faultKind;
        }
        game.begin(text);
        return game.lines;
    }

    public int fault(int what) {
        switch (what) {
            case 0: return text.faultKind;
            case 1: return text.faultPlace;
            default: return NONE;
        }
    }

    public int die(int d, int what) throws NoSuchElementException, IllegalArgumentException {
        needDie(d);
        needWhat(what, 1, 10);
        switch (what) {
            case 7: return game.total(d);
            case 8: return game.isSalt(d) ? 1 : 0;
            case 9: return game.isGone(d) ? 1 : 0;
            case 10: return ledger.throwsOfDie(d);
            default: return game.weight(d, what);
        }
    }

    public int hand(int h, int what) throws NoSuchElementException, IllegalArgumentException {
        needHand(h);
        needWhat(what, 0, 2);
        switch (what) {
            case 0: return game.heat(h);
            case 1: return game.dieByLot(h);
            default: return ledger.throwsOfHand(h);
        }
    }

    public boolean salts(int d) throws NoSuchElementException {
        needDie(d);
        boolean wasNot = !game.isSalt(d);
        game.makeSalt(d);
        return wasNot;
    }

    // ---- throws

    public int cast(int d, int h, int seed) throws NoSuchElementException, IllegalStateException {
        needDie(d);
        needHand(h);
        needNotGone(d);
        needRoomForThrow();
        draws.begin(seed);
        int face = game.faceByDraw(d, draws.draw());
        game.throwFace(d, h, face);
        return face;
    }

    public int shows(int d, int h, int face)
            throws NoSuchElementException, IllegalArgumentException, IllegalStateException {
        needDie(d);
        needHand(h);
        needFace(face);
        if (game.whyNot(d, h, face) != 0) {
            throw new IllegalStateException("it can't be thrown so");
        }
        game.throwFace(d, h, face);
        return game.total(d);
    }

    public int back(int n) throws IllegalArgumentException {
        if (n < 0 || n > game.thrown) {
            throw new IllegalArgumentException("there are not so many throws");
        }
        game.undo(n);
        return game.thrown;
    }

    public int past(int k, int what) throws NoSuchElementException, IllegalArgumentException {
        if (k < 0 || k >= game.thrown) {
            throw new NoSuchElementException("no such throw");
        }
        needWhat(what, 0, 2);
        switch (what) {
            case 0: return game.dieOfThrow(k);
            case 1: return game.handOfThrow(k);
            default: return game.faceOfThrow(k);
        }
    }

    public int evening(int seed, int times) throws IllegalArgumentException, IllegalStateException {
        if (times < 1 || times > 40) {
            throw new IllegalArgumentException("times aren't 1 to 40");
        }
        if (game.dice == 0 || game.hands == 0) {
            throw new IllegalStateException("no dice or no hands");
        }
        int thrownBefore = game.thrown;
        draws.begin(seed);
        for (int i = 0; i < times; i++) {
            int d = draws.draw() % game.dice;
            int h = draws.draw() % game.hands;
            if (!game.isGone(d) && game.hasRoomForThrow()) {
                game.throwFace(d, h, game.faceByDraw(d, draws.draw()));
            }
        }
        return game.thrown - thrownBefore;
    }

    public int judge(int tray, int what)
            throws NoSuchElementException, IllegalStateException, IllegalArgumentException {
        Tray told = neededTray(tray);
        needWhat(what, 0, 2);
        // Thrown in earnest and undone at once: so what is judged can't differ from what is performed.
        int done = throwTold(told);
        boolean all = done == told.many;
        int answer;
        switch (what) {
            case 0: answer = all ? NONE : done; break;
            case 1: answer = all ? 0 : game.whyNotTold(told.number(done)); break;
            default: answer = game.allTotals(); break;
        }
        game.undo(done);
        return answer;
    }

    public int perform(int tray) throws NoSuchElementException, IllegalStateException {
        return throwTold(neededTray(tray));
    }

    // ---- ants, rain, fans, lots

    public int ants(int minutes) throws IllegalArgumentException {
        needMinutes(minutes, 1);
        int ate = 0;
        for (int d = 0; d < game.dice; d++) {
            ate += game.feedAnts(d, minutes);
        }
        return ate;
    }

    public int eaten(int d, int face, int minutes) throws NoSuchElementException, IllegalArgumentException {
        needDie(d);
        needFace(face);
        needMinutes(minutes, 0);
        return game.weightAfterAnts(d, face, minutes);
    }

    public int lasts(int d) throws NoSuchElementException {
        needDie(d);
        // Ants eat 1 a minute, so sugar lasts as many minutes as it weighs.
        return game.isSalt(d) && !game.isGone(d) ? NONE : game.total(d);
    }

    public int lastFace(int d) throws NoSuchElementException {
        needDie(d);
        return game.isSalt(d) ? NONE : game.lastFaceForAnts(d);
    }

    public int rain(int n) throws IllegalArgumentException {
        if (n < 1 || n > MOST_WEIGHT) {
            throw new IllegalArgumentException("rain isn't 1 to 20");
        }
        int lost = 0;
        for (int d = 0; d < game.dice; d++) {
            for (int face = 1; face <= FACES; face++) {
                lost += game.wear(d, face, n);
            }
        }
        return lost;
    }

    public int fan(int h) throws NoSuchElementException {
        needHand(h);
        int was = game.heat(h);
        game.cool(h);
        return was;
    }

    public int lot(int seed) {
        draws.begin(seed);
        return game.drawLots(draws);
    }

    // ---- odds

    public long whole(int set) throws IllegalArgumentException, IllegalStateException {
        needSetNotGone(set);
        return odds.wholeOf(set);
    }

    public long sum(int set, int sum) throws IllegalArgumentException, IllegalStateException {
        needSetNotGone(set);
        return odds.waysOfSum(set, sum);
    }

    public long least(int set, int sum) throws IllegalArgumentException, IllegalStateException {
        needSetNotGone(set);
        return odds.waysOfSumOrMore(set, sum);
    }

    public long alike(int set) throws IllegalArgumentException, IllegalStateException {
        needSetNotGone(set);
        return odds.waysOfOneFace(set);
    }

    public int mode(int set) throws IllegalArgumentException, IllegalStateException {
        needSetNotGone(set);
        return odds.likeliestSum(set);
    }

    public int sums(int set) throws IllegalArgumentException, IllegalStateException {
        needSetNotGone(set);
        return odds.possibleSums(set);
    }

    public long mean(int set, int what) throws IllegalArgumentException, IllegalStateException {
        needSet(set);
        needWhat(what, 0, 1);
        needNoneGone(set);
        long whole = odds.wholeOf(set);
        if (whole <= 0) {
            return NONE;
        }
        long summed = odds.allSumsWeighed(set);
        return what == 0 ? summed / whole : summed % whole;
    }

    public int bestSet(int n, int sum) throws IllegalArgumentException {
        needOneToThree(n);
        return odds.bestSetFor(n, sum);
    }

    public long unlike(int set) throws IllegalArgumentException, IllegalStateException {
        needSetNotGone(set);
        return odds.waysOfUnlikeFaces(set, false);
    }

    public long run(int set) throws IllegalArgumentException, IllegalStateException {
        needSetNotGone(set);
        return odds.waysOfUnlikeFaces(set, true);
    }

    public int cannot(int face) throws IllegalArgumentException {
        needFace(face);
        int bits = 0;
        for (int d = 0; d < game.dice; d++) {
            if (game.weight(d, face) == 0) {
                bits |= 1 << d;
            }
        }
        return bits;
    }

    public long once(int d, int face, int n)
            throws NoSuchElementException, IllegalArgumentException, IllegalStateException {
        needDie(d);
        needFace(face);
        needThrowsUpToEight(n, 1);
        needNotGone(d);
        int total = game.total(d);
        return power(total, n) - power(total - game.weight(d, face), n);
    }

    public long allFaces(int d, int n)
            throws NoSuchElementException, IllegalArgumentException, IllegalStateException {
        needDie(d);
        needThrowsUpToEight(n, 1);
        needNotGone(d);
        return odds.waysOfEveryFace(d, n);
    }

    public long coins(int d, int coins, int goal, int n)
            throws NoSuchElementException, IllegalArgumentException, IllegalStateException {
        needDie(d);
        if (coins < 1 || coins > 9 || goal <= coins || goal > 10) {
            throw new IllegalArgumentException("not such coins, not such a goal");
        }
        needThrowsUpToEight(n, 0);
        needNotGone(d);
        int wins = game.weight(d, 4) + game.weight(d, 5) + game.weight(d, 6);
        return waysToGoal(wins, game.total(d), coins, goal, n);
    }

    // ---- beating

    public int beats(int a, int b) throws NoSuchElementException, IllegalStateException {
        needTwoDice(a, b);
        return beating.waysToBeat(a, b);
    }

    public int ties(int a, int b) throws NoSuchElementException, IllegalStateException {
        needTwoDice(a, b);
        return beating.waysToTie(a, b);
    }

    public int strongest() {
        return beating.strongestDie();
    }

    public int ring(int k) {
        return beating.ringAt(k);
    }

    public long series(int a, int b, int n)
            throws NoSuchElementException, IllegalStateException, IllegalArgumentException {
        needTwoDice(a, b);
        needOneToThree(n);
        return waysToLead(beating.waysToBeat(a, b), beating.waysToTie(a, b), beating.waysToBeat(b, a), 0, n);
    }

    public long more(int a, int b, int n)
            throws NoSuchElementException, IllegalStateException, IllegalArgumentException {
        needTwoDice(a, b);
        needOneToThree(n);
        return odds.waysOfMore(a, b, n);
    }

    public int evenest() {
        return beating.evenestTwo();
    }

    // ---- stopping, who it was

    public long stopping(int d, int n, int what)
            throws NoSuchElementException, IllegalStateException, IllegalArgumentException {
        needDie(d);
        needNotGone(d);
        if (n < 1 || n > 5) {
            throw new IllegalArgumentException("throws aren't 1 to 5");
        }
        needWhat(what, 0, 2);
        if (what == 2) {
            return odds.leastFaceToStop(d, n);
        }
        long whole = power(game.total(d), n);
        if (whole <= 0) {
            return NONE;
        }
        long best = odds.bestByStopping(d, n);
        return what == 0 ? best / whole : best % whole;
    }

    public int likelier(int tray) throws NoSuchElementException, IllegalStateException, IllegalArgumentException {
        Tray faces = neededTray(tray);
        needFaces(faces);
        return witness.likeliestDie(faces);
    }

    public int fits(int tray) throws NoSuchElementException, IllegalStateException, IllegalArgumentException {
        Tray faces = neededTray(tray);
        needFaces(faces);
        return witness.rowsOfDice(faces);
    }

    public int worn(int d, int tray, int total, int k)
            throws NoSuchElementException, IllegalStateException, IllegalArgumentException {
        needDie(d);
        Tray faces = neededTray(tray);
        needFaces(faces);
        return witness.rowOfHands(d, faces, total, k);
    }

    // ---- what was thrown

    public int tally(int d, int face) throws NoSuchElementException, IllegalArgumentException {
        needDie(d);
        needFace(face);
        return ledger.timesShown(d, face);
    }

    public int streak(int face) throws IllegalArgumentException {
        needFace(face);
        return ledger.longestRow(face);
    }

    public int off(int d) throws NoSuchElementException {
        needDie(d);
        return ledger.howFarOff(d);
    }

    public int loaded() {
        return ledger.farthestOff();
    }

    // ---- trays, images

    public void tray(int tray, int sort, int many) throws NoSuchElementException, IllegalArgumentException {
        Tray made = anyTray(tray);
        if (sort < 0 || sort > 3 || many < 0 || many > MOST_NUMBERS) {
            throw new IllegalArgumentException("no such sort, or not so many");
        }
        made.lay(sort, many);
    }

    public long write(int tray, int place, long v)
            throws NoSuchElementException, IllegalStateException, IndexOutOfBoundsException {
        Tray written = neededTray(tray);
        if (place < 0 || place >= written.many) {
            throw new IndexOutOfBoundsException("the tray has no such place");
        }
        written.put(place, v);
        return written.number(place);
    }

    public int pour(int tray) throws NoSuchElementException, IllegalStateException {
        Tray filled = neededTray(tray);
        int poured = Math.min(filled.many, game.thrown);
        for (int k = 0; k < poured; k++) {
            filled.put(k, game.faceOfThrow(k));
        }
        return poured;
    }

    public void image(int i) throws NoSuchElementException {
        needImagePlace(i);
        if (images[i] == null) {
            images[i] = new Game();
        }
        images[i].copyFrom(game);
    }

    public void restore(int i) throws NoSuchElementException, IllegalStateException {
        needImagePlace(i);
        if (images[i] == null) {
            throw new IllegalStateException("no image was made");
        }
        game.copyFrom(images[i]);
    }

    public int count(int what) {
        switch (what) {
            case 0: return game.lines;
            case 1: return game.dice;
            case 2: return game.hands;
            case 3: return game.antsFace;
            case 4: return game.thrown;
            case 5: return game.goneDice();
            case 6: return game.allTotals();
            case 7: return tape.length;
            default: return NONE;
        }
    }

    // ---- what calls ask for before they act

    private void needDie(int d) {
        if (!game.hasDie(d)) {
            throw new NoSuchElementException("no such die");
        }
    }

    private void needHand(int h) {
        if (!game.hasHand(h)) {
            throw new NoSuchElementException("no such hand");
        }
    }

    private void needNotGone(int d) {
        if (game.isGone(d)) {
            throw new IllegalStateException("the die is gone");
        }
    }

    private void needTwoDice(int a, int b) {
        needDie(a);
        needDie(b);
        needNotGone(a);
        needNotGone(b);
    }

    private void needRoomForThrow() {
        if (!game.hasRoomForThrow()) {
            throw new IllegalStateException("there are 60 throws");
        }
    }

    private void needFace(int face) {
        if (!isFace(face)) {
            throw new IllegalArgumentException("no face");
        }
    }

    private void needWhat(int what, int least, int most) {
        if (what < least || what > most) {
            throw new IllegalArgumentException("another what");
        }
    }

    private void needMinutes(int minutes, int least) {
        if (minutes < least || minutes > 99) {
            throw new IllegalArgumentException("not so many minutes");
        }
    }

    private void needThrowsUpToEight(int n, int least) {
        if (n < least || n > 8) {
            throw new IllegalArgumentException("not so many throws");
        }
    }

    private void needOneToThree(int n) {
        if (n < 1 || n > 3) {
            throw new IllegalArgumentException("it isn't 1 to 3");
        }
    }

    private void needSet(int set) {
        if (set < 0 || set >= 1 << game.dice) {
            throw new IllegalArgumentException("a set with others than the dice");
        }
    }

    private void needNoneGone(int set) {
        if (odds.wholeOf(set) == 0) {
            throw new IllegalStateException("a die of the set is gone");
        }
    }

    private void needSetNotGone(int set) {
        needSet(set);
        needNoneGone(set);
    }

    private void needFaces(Tray faces) {
        if (!faces.holdsToldFaces()) {
            throw new IllegalArgumentException("not 1 to 5 numbers, or one is no face");
        }
    }

    private void needImagePlace(int i) {
        if (i < 0 || i >= images.length) {
            throw new NoSuchElementException("no such image");
        }
    }

    private Tray anyTray(int tray) {
        if (tray < 0 || tray >= trays.length) {
            throw new NoSuchElementException("no such tray");
        }
        return trays[tray];
    }

    private Tray neededTray(int tray) {
        Tray found = anyTray(tray);
        if (found.missing) {
            throw new IllegalStateException("the tray is missing");
        }
        return found;
    }

    // ---- what several calls share

    /** Throws what is told till one can't be: how many were. */
    private int throwTold(Tray told) {
        int done = 0;
        for (int i = 0; i < told.many && game.whyNotTold(told.number(i)) == 0; i++) {
            game.throwToldOne((int) told.number(i));
            done++;
        }
        return done;
    }

    private static boolean isFace(long face) {
        return face >= 1 && face <= FACES;
    }

    private static long power(long base, int n) {
        long p = 1;
        for (int i = 0; i < n; i++) {
            p *= base;
        }
        return p;
    }

    /** What is left of the throws once the goal is reached goes as it likes, by the whole total each. */
    private static long waysToGoal(int wins, int total, int coins, int goal, int left) {
        if (coins >= goal) {
            return power(total, left);
        }
        if (coins <= 0 || left <= 0) {
            return 0;
        }
        return wins * waysToGoal(wins, total, coins + 1, goal, left - 1)
            + (total - wins) * waysToGoal(wins, total, coins - 1, goal, left - 1);
    }

    private static long waysToLead(long wins, long ties, long losses, int lead, int left) {
        if (left <= 0) {
            return lead > 0 ? 1 : 0;
        }
        return wins * waysToLead(wins, ties, losses, lead + 1, left - 1)
            + ties * waysToLead(wins, ties, losses, lead, left - 1)
            + losses * waysToLead(wins, ties, losses, lead - 1, left - 1);
    }

    /** The bytes that were fed and not yet read. */
    private static final class Tape {
        private final byte[] bytes = new byte[MOST_BYTES];
        private int length;

        private boolean hasRoomForFeed() {
            return length + BYTES_A_FEED <= MOST_BYTES;
        }

        private void put(int four) {
            for (int shift = 24; shift >= 0 && length < bytes.length; shift -= 8) {
                bytes[length] = (byte) (four >>> shift);
                length++;
            }
        }

        private int byteAt(int place) {
            return place >= 0 && place < length ? bytes[place] : 0;
        }
    }

    /** Reads a table's text; what it read is kept apart from the game, which stays if there is a fault. */
    private static final class TableText {
        private static final int END = 0;
        private static final int SIGN = 1;
        private static final int NUMBER = 2;
        private static final int DIE = 3;
        private static final int SALT = 4;
        private static final int HAND = 5;
        private static final int ANTS = 6;
        private static final int OTHER_WORD = 7;
        private static final int NO_TOKEN = 8;

        private static final int BEGINS_NO_TOKEN = 1;
        private static final int CANNOT_STAND = 2;
        private static final int OUT_OF_BOUNDS = 3;
        private static final int TOO_MANY = 4;

        private final Tape tape;
        private final int[] cells = new int[CELLS];
        private int lines;
        private int dice;
        private int hands;
        private int antsFace;
        private int faultKind;
        private int faultPlace = NONE;

        private int length;
        private int at;
        private int start;
        private int token;
        private int value;

        private TableText(Tape tape) {
            this.tape = tape;
        }

        private void read(int n) {
            clear();
            length = n;
            nextToken();
            // Each line takes a token at least, so there are no more of them than bytes.
            for (int i = 0; i < n && token != END && faultKind == 0; i++) {
                if (readsLine()) {
                    lines++;
                }
            }
        }

        private void clear() {
            for (int i = 0; i < CELLS; i++) {
                cells[i] = i < LOTS_AT ? 0 : NONE;
            }
            lines = 0;
            dice = 0;
            hands = 0;
            antsFace = ANTS_FACE_AT_FIRST;
            faultKind = 0;
            faultPlace = NONE;
            at = 0;
        }

        private boolean readsLine() {
            boolean well;
            switch (token) {
                case DIE: well = readsDie(); break;
                case HAND: well = readsHand(); break;
                case ANTS: well = readsAnts(); break;
                default: well = isFaulty(CANNOT_STAND); break;
            }
            if (!well) {
                return false;
            }
            if (token != SIGN) {
                return isFaulty(CANNOT_STAND);
            }
            nextToken();
            return true;
        }

        private boolean readsDie() {
            if (dice >= MOST_DICE) {
                return isFaulty(TOO_MANY);
            }
            nextToken();
            int total = 0;
            for (int face = 1; face <= FACES; face++) {
                int least = face == FACES && total == 0 ? 1 : 0;
                if (!readsNumber(least, MOST_WEIGHT)) {
                    return false;
                }
                cells[dice * FACES + face - 1] = value;
                total += value;
                nextToken();
            }
            if (token == SALT) {
                cells[SALTS_AT] |= 1 << dice;
                nextToken();
            }
            dice++;
            return true;
        }

        private boolean readsHand() {
            if (hands >= MOST_HANDS) {
                return isFaulty(TOO_MANY);
            }
            nextToken();
            if (!readsNumber(0, MOST_HEAT)) {
                return false;
            }
            cells[HEATS_AT + hands] = value;
            hands++;
            nextToken();
            return true;
        }

        private boolean readsAnts() {
            nextToken();
            if (!readsNumber(1, FACES)) {
                return false;
            }
            antsFace = value;
            nextToken();
            return true;
        }

        private boolean readsNumber(int least, int most) {
            if (token != NUMBER) {
                return isFaulty(CANNOT_STAND);
            }
            if (value < least || value > most) {
                return isFaulty(OUT_OF_BOUNDS);
            }
            return true;
        }

        /** Notes the fault of the token at hand, the least kind of it; always false, as nothing was read. */
        private boolean isFaulty(int kind) {
            faultKind = token == NO_TOKEN ? BEGINS_NO_TOKEN : kind;
            faultPlace = start;
            return false;
        }

        private void nextToken() {
            while (at < length && isBlank(tape.byteAt(at))) {
                at++;
            }
            start = at;
            int sign = tape.byteAt(at);
            if (at >= length) {
                token = END;
            } else if (sign == ';') {
                at++;
                token = SIGN;
            } else if (isDigit(sign)) {
                nextNumber();
            } else if (isLetter(sign)) {
                nextWord();
            } else {
                token = NO_TOKEN;
            }
        }

        private void nextNumber() {
            value = 0;
            while (at < length && isDigit(tape.byteAt(at))) {
                if (at - start < 3) {
                    value = value * 10 + tape.byteAt(at) - '0';
                }
                at++;
            }
            token = at - start <= 3 ? NUMBER : NO_TOKEN;
        }

        private void nextWord() {
            while (at < length && isLetter(tape.byteAt(at))) {
                at++;
            }
            if (isWord("die")) {
                token = DIE;
            } else if (isWord("salt")) {
                token = SALT;
            } else if (isWord("hand")) {
                token = HAND;
            } else if (isWord("ants")) {
                token = ANTS;
            } else {
                token = OTHER_WORD;
            }
        }

        private boolean isWord(String word) {
            if (at - start != word.length()) {
                return false;
            }
            for (int i = 0; i < word.length(); i++) {
                if (tape.byteAt(start + i) != word.charAt(i)) {
                    return false;
                }
            }
            return true;
        }

        private static boolean isBlank(int sign) {
            return sign == 10 || sign == 32;
        }

        private static boolean isDigit(int sign) {
            return sign >= '0' && sign <= '9';
        }

        private static boolean isLetter(int sign) {
            return sign >= 'a' && sign <= 'z';
        }
    }

    /** Numbers by a seed. */
    private static final class Draws {
        private int seed;

        private void begin(int first) {
            seed = first;
        }

        private int draw() {
            seed = 1103515245 * seed + 12345;
            return seed >>> 16;
        }
    }

    /** The table as it stands and its throws: all that an image holds. */
    private static final class Game {
        private int lines;
        private int dice;
        private int hands;
        private int antsFace = ANTS_FACE_AT_FIRST;
        private int thrown;
        private final int[] cells = new int[CELLS];
        private final int[] told = new int[MOST_THROWS];
        private final int[] cellsBefore = new int[MOST_THROWS * CELLS];

        private void begin(TableText text) {
            lines = text.lines;
            dice = text.dice;
            hands = text.hands;
            antsFace = text.antsFace;
            thrown = 0;
            System.arraycopy(text.cells, 0, cells, 0, CELLS);
        }

        private void copyFrom(Game other) {
            lines = other.lines;
            dice = other.dice;
            hands = other.hands;
            antsFace = other.antsFace;
            thrown = other.thrown;
            System.arraycopy(other.cells, 0, cells, 0, CELLS);
            System.arraycopy(other.told, 0, told, 0, MOST_THROWS);
            System.arraycopy(other.cellsBefore, 0, cellsBefore, 0, MOST_THROWS * CELLS);
        }

        private boolean hasDie(int d) {
            return d >= 0 && d < dice;
        }

        private boolean hasHand(int h) {
            return h >= 0 && h < hands;
        }

        private int weight(int d, int face) {
            boolean there = d >= 0 && d < dice && face >= 1 && face <= FACES;
            return there ? cells[d * FACES + face - 1] : 0;
        }

        private int total(int d) {
            int total = 0;
            for (int face = 1; face <= FACES; face++) {
                total += weight(d, face);
            }
            return total;
        }

        private int allTotals() {
            int together = 0;
            for (int d = 0; d < dice; d++) {
                together += total(d);
            }
            return together;
        }

        private boolean isGone(int d) {
            return total(d) == 0;
        }

        private int goneDice() {
            int gone = 0;
            for (int d = 0; d < dice; d++) {
                gone += isGone(d) ? 1 : 0;
            }
            return gone;
        }

        private boolean isSalt(int d) {
            return (cells[SALTS_AT] >> d & 1) == 1;
        }

        private void makeSalt(int d) {
            if (hasDie(d)) {
                cells[SALTS_AT] |= 1 << d;
            }
        }

        private int heat(int h) {
            return hasHand(h) ? cells[HEATS_AT + h] : 0;
        }

        private void cool(int h) {
            if (hasHand(h)) {
                cells[HEATS_AT + h] = 0;
            }
        }

        private int dieByLot(int h) {
            return hasHand(h) ? cells[LOTS_AT + h] : NONE;
        }

        /** A face of sugar loses weight, as far as it has some: how much. */
        private int wear(int d, int face, int much) {
            if (!hasDie(d) || !isFace(face) || isSalt(d)) {
                return 0;
            }
            int lost = Math.min(weight(d, face), much);
            cells[d * FACES + face - 1] -= lost;
            return lost;
        }

        private boolean hasRoomForThrow() {
            return thrown < MOST_THROWS;
        }

        /** The least kind by which a throw can't be; 0: it can. */
        private int whyNot(int d, int h, int face) {
            if (!hasDie(d) || !hasHand(h) || !isFace(face)) {
                return 1;
            }
            if (isGone(d)) {
                return 2;
            }
            if (weight(d, face) == 0) {
                return 3;
            }
            return hasRoomForThrow() ? 0 : 4;
        }

        private int whyNotTold(long one) {
            if (one < 0 || one >= 100 * MOST_DICE) {
                return 1;
            }
            int number = (int) one;
            return whyNot(number / 100, number / 10 % 10, number % 10);
        }

        private void throwToldOne(int number) {
            throwFace(number / 100, number / 10 % 10, number % 10);
        }

        private int faceByDraw(int d, int draw) {
            int total = total(d);
            int left = total > 0 ? draw % total : 0;
            for (int face = 1; face < FACES; face++) {
                left -= weight(d, face);
                if (left < 0) {
                    return face;
                }
            }
            return FACES;
        }

        private void throwFace(int d, int h, int face) {
            if (!hasDie(d) || !hasHand(h) || !isFace(face) || !hasRoomForThrow()) {
                return;
            }
            System.arraycopy(cells, 0, cellsBefore, thrown * CELLS, CELLS);
            told[thrown] = 100 * d + 10 * h + face;
            thrown++;
            wear(d, face, heat(h));
            cells[HEATS_AT + h] = Math.min(heat(h) + 1, MOST_HEAT);
        }

        private void undo(int n) {
            if (n > 0 && n <= thrown) {
                thrown -= n;
                System.arraycopy(cellsBefore, thrown * CELLS, cells, 0, CELLS);
            }
        }

        private int toldThrow(int k) {
            return k >= 0 && k < thrown ? told[k] : 0;
        }

        private int dieOfThrow(int k) {
            return toldThrow(k) / 100;
        }

        private int handOfThrow(int k) {
            return toldThrow(k) / 10 % 10;
        }

        private int faceOfThrow(int k) {
            return toldThrow(k) % 10;
        }

        /** The face that ants turn to when they have passed so many others. */
        private int faceForAnts(int passed) {
            return (antsFace - 1 + passed) % FACES + 1;
        }

        /** Ants leave a face only when it is empty, so a die is eaten face by face. */
        private int feedAnts(int d, int minutes) {
            int ate = 0;
            for (int passed = 0; passed < FACES; passed++) {
                ate += wear(d, faceForAnts(passed), minutes - ate);
            }
            return ate;
        }

        private int weightAfterAnts(int d, int face, int minutes) {
            if (isSalt(d)) {
                return weight(d, face);
            }
            int left = minutes;
            for (int passed = 0; passed < FACES && faceForAnts(passed) != face; passed++) {
                left -= Math.min(left, weight(d, faceForAnts(passed)));
            }
            return Math.max(weight(d, face) - left, 0);
        }

        private int lastFaceForAnts(int d) {
            int last = NONE;
            for (int passed = 0; passed < FACES; passed++) {
                if (weight(d, faceForAnts(passed)) > 0) {
                    last = faceForAnts(passed);
                }
            }
            return last;
        }

        private int drawLots(Draws draws) {
            int taken = 0;
            int got = 0;
            for (int h = 0; h < hands; h++) {
                int left = dice - got;
                int d = left > 0 ? dieLeft(taken, draws.draw() % left) : NONE;
                cells[LOTS_AT + h] = d;
                if (d != NONE) {
                    taken |= 1 << d;
                    got++;
                }
            }
            return got;
        }

        private int dieLeft(int taken, int place) {
            int passed = 0;
            for (int d = 0; d < dice; d++) {
                if ((taken >> d & 1) == 0) {
                    if (passed == place) {
                        return d;
                    }
                    passed++;
                }
            }
            return NONE;
        }
    }

    /** Exact odds of dice thrown together or again, without wear. */
    private static final class Odds {
        private final Game game;
        private final long[] ways = new long[MOST_SUM + 1];
        private final long[] otherWays = new long[MOST_SUM + 1];
        private final long[] setWays = new long[FACE_SETS];

        private Odds(Game game) {
            this.game = game;
        }

        private long wholeOf(int set) {
            long whole = 1;
            for (int d = 0; d < game.dice; d++) {
                if (isIn(set, d)) {
                    whole *= game.total(d);
                }
            }
            return whole;
        }

        private long waysOfSum(int set, int sum) {
            countSums(set);
            return sum >= 0 && sum < ways.length ? ways[sum] : 0;
        }

        private long waysOfSumOrMore(int set, int sum) {
            countSums(set);
            long together = 0;
            for (int s = Math.max(sum, 0); s < ways.length; s++) {
                together += ways[s];
            }
            return together;
        }

        private long waysOfOneFace(int set) {
            if (set == 0) {
                return 1;
            }
            long together = 0;
            for (int face = 1; face <= FACES; face++) {
                long product = 1;
                for (int d = 0; d < game.dice; d++) {
                    product *= isIn(set, d) ? game.weight(d, face) : 1;
                }
                together += product;
            }
            return together;
        }

        private int likeliestSum(int set) {
            countSums(set);
            int best = 0;
            for (int s = 1; s < ways.length; s++) {
                if (ways[s] > ways[best]) {
                    best = s;
                }
            }
            return best;
        }

        private int possibleSums(int set) {
            countSums(set);
            int bits = 0;
            for (int s = 0; s < ways.length; s++) {
                if (ways[s] > 0) {
                    bits |= 1 << s;
                }
            }
            return bits;
        }

        private long allSumsWeighed(int set) {
            countSums(set);
            long together = 0;
            for (int s = 0; s < ways.length; s++) {
                together += s * ways[s];
            }
            return together;
        }

        private int bestSetFor(int n, int sum) {
            int best = NONE;
            long bestWays = 0;
            long bestWhole = 1;
            for (int set = 1; set < 1 << game.dice; set++) {
                long whole = wholeOf(set);
                if (Integer.bitCount(set) != n || whole == 0) {
                    continue;
                }
                long here = waysOfSumOrMore(set, sum);
                if (best == NONE || here * bestWhole > bestWays * whole) {
                    best = set;
                    bestWays = here;
                    bestWhole = whole;
                }
            }
            return best;
        }

        private long waysOfUnlikeFaces(int set, boolean withoutGap) {
            begin(setWays);
            for (int d = 0; d < game.dice; d++) {
                if (isIn(set, d)) {
                    addToFaceSets(d, false);
                }
            }
            long together = 0;
            for (int faces = 0; faces < FACE_SETS; faces++) {
                if (!withoutGap || isWithoutGap(faces)) {
                    together += setWays[faces];
                }
            }
            return together;
        }

        private long waysOfEveryFace(int d, int n) {
            begin(setWays);
            for (int i = 0; i < n; i++) {
                addToFaceSets(d, true);
            }
            int wanted = 0;
            for (int face = 1; face <= FACES; face++) {
                if (game.weight(d, face) > 0) {
                    wanted |= 1 << face - 1;
                }
            }
            return setWays[wanted];
        }

        private long waysOfMore(int a, int b, int n) {
            countThrows(ways, a, n);
            countThrows(otherWays, b, n);
            long together = 0;
            long lower = 0;
            for (int s = 0; s < ways.length; s++) {
                together += ways[s] * lower;
                lower += otherWays[s];
            }
            return together;
        }

        /** The greatest mean, in ways of the total to the n-th. */
        private long bestByStopping(int d, int n) {
            long best = 0;
            long whole = 1;
            for (int left = 1; left <= n; left++) {
                long here = 0;
                for (int face = 1; face <= FACES; face++) {
                    here += game.weight(d, face) * Math.max(face * whole, best);
                }
                best = here;
                whole *= game.total(d);
            }
            return best;
        }

        private int leastFaceToStop(int d, int n) {
            long goingOn = bestByStopping(d, n - 1);
            long whole = power(game.total(d), n - 1);
            int face = 1;
            while (face < FACES && face * whole < goingOn) {
                face++;
            }
            return face;
        }

        private void countSums(int set) {
            begin(ways);
            for (int d = 0; d < game.dice; d++) {
                if (isIn(set, d)) {
                    addToSums(ways, d);
                }
            }
        }

        private void countThrows(long[] row, int d, int n) {
            begin(row);
            for (int i = 0; i < n; i++) {
                addToSums(row, d);
            }
        }

        /** From the greatest sum down, as each one is made of lesser ones that must still be the old ones. */
        private void addToSums(long[] row, int d) {
            for (int s = row.length - 1; s >= 0; s--) {
                long here = 0;
                for (int face = 1; face <= FACES && face <= s; face++) {
                    here += game.weight(d, face) * row[s - face];
                }
                row[s] = here;
            }
        }

        /** From the greatest set down, for the same reason. */
        private void addToFaceSets(int d, boolean again) {
            for (int faces = FACE_SETS - 1; faces >= 0; faces--) {
                long here = 0;
                for (int face = 1; face <= FACES; face++) {
                    int bit = 1 << face - 1;
                    if ((faces & bit) != 0) {
                        long from = setWays[faces ^ bit] + (again ? setWays[faces] : 0);
                        here += game.weight(d, face) * from;
                    }
                }
                setWays[faces] = here;
            }
        }

        private static void begin(long[] row) {
            for (int i = 0; i < row.length; i++) {
                row[i] = i == 0 ? 1 : 0;
            }
        }

        private static boolean isIn(int set, int d) {
            return (set >> d & 1) == 1;
        }

        /** The lowest bit added to bits in one row clears them all. */
        private static boolean isWithoutGap(int faces) {
            return (faces + (faces & -faces) & faces) == 0;
        }
    }

    /** Which die shows more than which. */
    private static final class Beating {
        private final Game game;

        private Beating(Game game) {
            this.game = game;
        }

        private int waysToBeat(int a, int b) {
            int ways = 0;
            int lower = 0;
            for (int face = 1; face <= FACES; face++) {
                ways += game.weight(a, face) * lower;
                lower += game.weight(b, face);
            }
            return ways;
        }

        private int waysToTie(int a, int b) {
            int ways = 0;
            for (int face = 1; face <= FACES; face++) {
                ways += game.weight(a, face) * game.weight(b, face);
            }
            return ways;
        }

        /** A die that is gone has no ways to beat or be beaten, so it is never in a pair of these. */
        private boolean isBetter(int a, int b) {
            return waysToBeat(a, b) > waysToBeat(b, a);
        }

        private int strongestDie() {
            int best = NONE;
            int most = NONE;
            for (int d = 0; d < game.dice; d++) {
                int weaker = weakerOnes(d);
                if (!game.isGone(d) && weaker > most) {
                    best = d;
                    most = weaker;
                }
            }
            return best;
        }

        private int weakerOnes(int d) {
            int weaker = 0;
            for (int other = 0; other < game.dice; other++) {
                weaker += isBetter(d, other) ? 1 : 0;
            }
            return weaker;
        }

        private int ringAt(int k) {
            int found = 0;
            for (int a = 0; a < game.dice; a++) {
                for (int b = a + 1; b < game.dice; b++) {
                    for (int c = a + 1; c < game.dice; c++) {
                        if (isBetter(a, b) && isBetter(b, c) && isBetter(c, a)) {
                            if (found == k) {
                                return 100 * a + 10 * b + c;
                            }
                            found++;
                        }
                    }
                }
            }
            return k == NONE ? found : NONE;
        }

        private int evenestTwo() {
            int best = NONE;
            long leastGap = 0;
            long itsWhole = 1;
            for (int a = 0; a < game.dice; a++) {
                for (int b = a + 1; b < game.dice; b++) {
                    long whole = game.total(a) * game.total(b);
                    long gap = Math.abs(waysToBeat(a, b) - waysToBeat(b, a));
                    if (whole > 0 && (best == NONE || gap * itsWhole < leastGap * whole)) {
                        best = 10 * a + b;
                        leastGap = gap;
                        itsWhole = whole;
                    }
                }
            }
            return best;
        }
    }

    /** Which die showed told faces, whose hands wore it. */
    private static final class Witness {
        private final Game game;
        private final int[] weights = new int[FACES + 1];
        private final int[] heats = new int[MOST_HANDS];

        private Witness(Game game) {
            this.game = game;
        }

        private int likeliestDie(Tray faces) {
            int best = NONE;
            long bestWays = 0;
            long bestWhole = 1;
            for (int d = 0; d < game.dice; d++) {
                long ways = 1;
                for (int i = 0; i < faces.many; i++) {
                    ways *= game.weight(d, faces.face(i));
                }
                long whole = power(game.total(d), faces.many);
                if (ways * bestWhole > bestWays * whole) {
                    best = d;
                    bestWays = ways;
                    bestWhole = whole;
                }
            }
            return best;
        }

        private int rowsOfDice(Tray faces) {
            int rows = 1;
            for (int i = 0; i < faces.many; i++) {
                int could = 0;
                for (int d = 0; d < game.dice; d++) {
                    could += game.weight(d, faces.face(i)) > 0 ? 1 : 0;
                }
                rows *= could;
            }
            return rows;
        }

        private int rowOfHands(int d, Tray faces, int total, int k) {
            // A total below 0 is told by nobody's throws, and is what totalBehind says where there is none.
            int rows = total < 0 ? 0 : 1 << 2 * faces.many;
            int found = 0;
            for (int row = 0; row < rows; row++) {
                if (totalBehind(d, faces, row) == total) {
                    if (found == k) {
                        return row;
                    }
                    found++;
                }
            }
            return k == NONE ? found : NONE;
        }

        /** The total behind the throws by a row of hands (digits by 4); NONE: it can't be thrown so. */
        private int totalBehind(int d, Tray faces, int row) {
            begin(d);
            int total = game.total(d);
            for (int i = 0; i < faces.many; i++) {
                int h = row >> 2 * (faces.many - 1 - i) & 3;
                int face = faces.face(i);
                if (!game.hasHand(h) || weights[face] == 0) {
                    return NONE;
                }
                int lost = game.isSalt(d) ? 0 : Math.min(weights[face], heats[h]);
                weights[face] -= lost;
                total -= lost;
                heats[h] = Math.min(heats[h] + 1, MOST_HEAT);
            }
            return total;
        }

        private void begin(int d) {
            for (int face = 1; face <= FACES; face++) {
                weights[face] = game.weight(d, face);
            }
            for (int h = 0; h < MOST_HANDS; h++) {
                heats[h] = game.heat(h);
            }
        }
    }

    /** What the noted throws were, together. */
    private static final class Ledger {
        private final Game game;

        private Ledger(Game game) {
            this.game = game;
        }

        private int throwsOfDie(int d) {
            int times = 0;
            for (int k = 0; k < game.thrown; k++) {
                times += game.dieOfThrow(k) == d ? 1 : 0;
            }
            return times;
        }

        private int throwsOfHand(int h) {
            int times = 0;
            for (int k = 0; k < game.thrown; k++) {
                times += game.handOfThrow(k) == h ? 1 : 0;
            }
            return times;
        }

        private int timesShown(int d, int face) {
            int times = 0;
            for (int k = 0; k < game.thrown; k++) {
                times += game.dieOfThrow(k) == d && game.faceOfThrow(k) == face ? 1 : 0;
            }
            return times;
        }

        private int longestRow(int face) {
            int longest = 0;
            int row = 0;
            for (int k = 0; k < game.thrown; k++) {
                row = game.faceOfThrow(k) == face ? row + 1 : 0;
                longest = Math.max(longest, row);
            }
            return longest;
        }

        private int howFarOff(int d) {
            int times = throwsOfDie(d);
            int far = 0;
            for (int face = 1; face <= FACES; face++) {
                far += Math.abs(FACES * timesShown(d, face) - times);
            }
            return far;
        }

        private int farthestOff() {
            int best = NONE;
            int farthest = 0;
            for (int d = 0; d < game.dice; d++) {
                int far = howFarOff(d);
                if (far > farthest) {
                    best = d;
                    farthest = far;
                }
            }
            return best;
        }
    }

    /** A row of numbers of one sort. */
    private static final class Tray {
        private final long[] numbers = new long[MOST_NUMBERS];
        private boolean missing = true;
        private int sort;
        private int many;

        private void lay(int newSort, int newMany) {
            missing = false;
            sort = newSort;
            many = newMany;
            for (int i = 0; i < numbers.length; i++) {
                numbers[i] = 0;
            }
        }

        private void put(int place, long v) {
            if (place >= 0 && place < many && place < numbers.length) {
                numbers[place] = cut(v);
            }
        }

        private long number(int place) {
            return place >= 0 && place < many && place < numbers.length ? numbers[place] : 0;
        }

        private long cut(long v) {
            switch (sort) {
                case 0: return (byte) v;
                case 1: return (short) v;
                case 2: return (int) v;
                default: return v;
            }
        }

        private boolean holdsToldFaces() {
            boolean all = many >= 1 && many <= MOST_TOLD_FACES;
            for (int i = 0; i < many && all; i++) {
                all = isFace(number(i));
            }
            return all;
        }

        /** Of a tray that holds told faces. */
        private int face(int place) {
            return isFace(number(place)) ? (int) number(place) : 1;
        }
    }
}
