import java.math.BigInteger;
import java.util.ArrayList;
import java.util.Arrays;
import java.util.List;
import java.util.NoSuchElementException;
import java.util.function.IntPredicate;
import java.util.regex.Matcher;
import java.util.regex.Pattern;

/** The document told a second time, with no thought of speed or room: what RandomTest compares with. */
final class PlainDice {
    private static final class World {
        int lines;
        int ants = 5;
        List<int[]> dice = new ArrayList<>();
        List<Boolean> salt = new ArrayList<>();
        List<Integer> heats = new ArrayList<>();
        List<Integer> lots = new ArrayList<>();
        List<int[]> thrown = new ArrayList<>();
        World before;

        World copy() {
            World w = new World();
            w.lines = lines;
            w.ants = ants;
            for (int[] die : dice) {
                w.dice.add(die.clone());
            }
            w.salt.addAll(salt);
            w.heats.addAll(heats);
            w.lots.addAll(lots);
            w.thrown.addAll(thrown);
            w.before = before;
            return w;
        }
    }

    private World w = new World();
    private final StringBuilder tape = new StringBuilder();
    private int fault = 0;
    private int faultPlace = -1;
    private final long[][] trays = new long[4][];
    private final int[] sorts = new int[4];
    private final World[] images = new World[3];

    private static void no(boolean wrong, RuntimeException e) {
        if (wrong) {
            throw e;
        }
    }

    private static NoSuchElementException noSuch() {
        return new NoSuchElementException();
    }

    private static IllegalArgumentException argument() {
        return new IllegalArgumentException();
    }

    private static IllegalStateException state() {
        return new IllegalStateException();
    }

    private int[] needDie(int d) {
        no(d < 0 || d >= w.dice.size(), noSuch());
        return w.dice.get(d);
    }

    private void needHand(int h) {
        no(h < 0 || h >= w.heats.size(), noSuch());
    }

    private static void needFace(long face) {
        no(face < 1 || face > 6, argument());
    }

    private static void needIn(long n, int least, int most) {
        no(n < least || n > most, argument());
    }

    private long[] needTray(int tray) {
        no(tray < 0 || tray > 3, noSuch());
        no(trays[tray] == null, state());
        return trays[tray];
    }

    private static int total(int[] die) {
        return Arrays.stream(die).sum();
    }

    int feed(int a, int b, int c, int d, int e) {
        if (tape.length() > 580) {
            return -1;
        }
        for (int four : new int[] {a, b, c, d, e}) {
            for (int i = 3; i >= 0; i--) {
                tape.append((char) (four >> 8 * i & 255));
            }
        }
        return tape.length();
    }

    int table(int n) {
        needIn(n, 0, tape.length());
        String text = tape.substring(0, n);
        tape.setLength(0);
        World read = new World();
        int[] found = faultOf(text, read);
        fault = found[0];
        faultPlace = found[1];
        if (fault != 0) {
            return -10 - fault;
        }
        w = read;
        return w.lines;
    }

    /** Goes token by token through a line's pattern: N for a number, the others as they stand. */
    private static int[] faultOf(String text, World read) {
        Matcher m = Pattern.compile("[ \\n]*([a-z]+|[0-9]+|;|[^ \\n]|$)", Pattern.DOTALL).matcher(text);
        List<String> line = new ArrayList<>();
        while (m.find()) {
            String token = m.group(1);
            int kind = tokenFault(token, line, read);
            if (kind != 0) {
                return new int[] {kind, m.start(1)};
            }
            if (token.isEmpty()) {
                break;
            }
            line.add(token);
            if (token.equals(";")) {
                take(line, read);
                line.clear();
            }
        }
        return new int[] {0, -1};
    }

    private static int tokenFault(String token, List<String> line, World read) {
        if (!token.matches("[a-z]+|[0-9]{1,3}|;|")) {
            return 1;
        }
        String soFar = String.join(" ", line).replaceAll("[0-9]+", "N");
        String with = (soFar + " " + token.replaceAll("[0-9]+", "N")).trim();
        boolean starts = false;
        for (String whole : new String[] {"die N N N N N N ;", "die N N N N N N salt ;", "hand N ;", "ants N ;"}) {
            starts |= (whole + " ").startsWith(with + " ");
        }
        if (token.isEmpty() ? !line.isEmpty() : !starts) {
            return 2;
        }
        if (token.matches("[0-9]+")) {
            int n = Integer.parseInt(token);
            String word = line.get(0);
            boolean noWeight = line.size() == 6 && line.subList(1, 6).stream().allMatch(t -> Integer.parseInt(t) == 0);
            boolean in = word.equals("die") ? n <= 20 && !(noWeight && n == 0) : word.equals("hand") ? n <= 9 : n >= 1 && n <= 6;
            return in ? 0 : 3;
        }
        return token.equals("die") && read.dice.size() == 5 || token.equals("hand") && read.heats.size() == 4 ? 4 : 0;
    }

    private static void take(List<String> line, World read) {
        read.lines++;
        int first = Integer.parseInt(line.get(1));
        switch (line.get(0)) {
            case "die" -> {
                read.dice.add(line.subList(1, 7).stream().mapToInt(Integer::parseInt).toArray());
                read.salt.add(line.contains("salt"));
            }
            case "hand" -> {
                read.heats.add(first);
                read.lots.add(-1);
            }
            default -> read.ants = first;
        }
    }

    int fault(int what) {
        return what == 0 ? fault : what == 1 ? faultPlace : -1;
    }

    int die(int d, int what) {
        int[] die = needDie(d);
        needIn(what, 1, 10);
        if (what <= 6) {
            return die[what - 1];
        }
        return what == 7 ? total(die) : what == 8 ? (w.salt.get(d) ? 1 : 0) : what == 9 ? (total(die) == 0 ? 1 : 0)
            : (int) w.thrown.stream().filter(t -> t[0] == d).count();
    }

    int hand(int h, int what) {
        needHand(h);
        needIn(what, 0, 2);
        return what == 0 ? w.heats.get(h) : what == 1 ? w.lots.get(h) : (int) w.thrown.stream().filter(t -> t[1] == h).count();
    }

    boolean salts(int d) {
        needDie(d);
        return !w.salt.set(d, true);
    }

    private static int next(int seed) {
        return seed * 1103515245 + 12345;
    }

    private int drawnFace(int d, int seed) {
        int draw = (seed >>> 16) % total(w.dice.get(d));
        List<Integer> all = new ArrayList<>();
        for (int face = 1; face <= 6; face++) {
            for (int i = 0; i < w.dice.get(d)[face - 1]; i++) {
                all.add(face);
            }
        }
        return all.get(draw);
    }

    private void thrown(int d, int h, int face) {
        World was = w;
        w = w.copy();
        w.before = was;
        w.thrown.add(new int[] {d, h, face});
        if (!w.salt.get(d)) {
            int[] die = w.dice.get(d);
            die[face - 1] = Math.max(0, die[face - 1] - w.heats.get(h));
        }
        w.heats.set(h, Math.min(9, w.heats.get(h) + 1));
    }

    int cast(int d, int h, int seed) {
        int[] die = needDie(d);
        needHand(h);
        no(total(die) == 0 || w.thrown.size() == 60, state());
        int face = drawnFace(d, next(seed));
        thrown(d, h, face);
        return face;
    }

    int shows(int d, int h, int face) {
        int[] die = needDie(d);
        needHand(h);
        needFace(face);
        no(die[face - 1] == 0 || w.thrown.size() == 60, state());
        thrown(d, h, face);
        return total(w.dice.get(d));
    }

    int back(int n) {
        needIn(n, 0, w.thrown.size());
        for (int i = 0; i < n; i++) {
            w = w.before;
        }
        w = w.copy();
        return w.thrown.size();
    }

    int past(int k, int what) {
        no(k < 0 || k >= w.thrown.size(), noSuch());
        needIn(what, 0, 2);
        return w.thrown.get(k)[what];
    }

    int evening(int seed, int times) {
        needIn(times, 1, 40);
        no(w.dice.isEmpty() || w.heats.isEmpty(), state());
        int x = seed;
        int many = 0;
        for (int i = 0; i < times; i++) {
            x = next(x);
            int d = (x >>> 16) % w.dice.size();
            x = next(x);
            int h = (x >>> 16) % w.heats.size();
            if (total(w.dice.get(d)) > 0 && w.thrown.size() < 60) {
                x = next(x);
                thrown(d, h, drawnFace(d, x));
                many++;
            }
        }
        return many;
    }

    private int why(long told) {
        for (int d = 0; d < w.dice.size(); d++) {
            for (int h = 0; h < w.heats.size(); h++) {
                for (int face = 1; face <= 6; face++) {
                    if (told == 100 * d + 10 * h + face) {
                        int[] die = w.dice.get(d);
                        return total(die) == 0 ? 2 : die[face - 1] == 0 ? 3 : w.thrown.size() == 60 ? 4 : 0;
                    }
                }
            }
        }
        return 1;
    }

    int judge(int tray, int what) {
        long[] told = needTray(tray);
        needIn(what, 0, 2);
        World was = w;
        w = w.copy();
        int place = perform(tray);
        int why = place < told.length ? why(told[place]) : 0;
        int totals = count(6);
        w = was;
        return what == 0 ? (place < told.length ? place : -1) : what == 1 ? why : totals;
    }

    int perform(int tray) {
        int done = 0;
        for (long one : needTray(tray)) {
            if (why(one) != 0) {
                break;
            }
            thrown((int) one / 100, (int) one / 10 % 10, (int) one % 10);
            done++;
        }
        return done;
    }

    /** One minute of ants at one die: the face they ate of, 0 if none. */
    private int minute(int[] die) {
        for (int i = 0; i < 6; i++) {
            int face = (w.ants + i - 1) % 6 + 1;
            if (die[face - 1] > 0) {
                die[face - 1]--;
                return face;
            }
        }
        return 0;
    }

    int ants(int minutes) {
        needIn(minutes, 1, 99);
        int ate = 0;
        for (int i = 0; i < minutes; i++) {
            for (int d = 0; d < w.dice.size(); d++) {
                ate += !w.salt.get(d) && minute(w.dice.get(d)) > 0 ? 1 : 0;
            }
        }
        return ate;
    }

    int eaten(int d, int face, int minutes) {
        int[] die = needDie(d).clone();
        needFace(face);
        needIn(minutes, 0, 99);
        for (int i = 0; i < minutes && !w.salt.get(d); i++) {
            minute(die);
        }
        return die[face - 1];
    }

    int lasts(int d) {
        int[] die = needDie(d).clone();
        if (w.salt.get(d) && total(die) > 0) {
            return -1;
        }
        int minutes = 0;
        while (total(die) > 0) {
            minute(die);
            minutes++;
        }
        return minutes;
    }

    int lastFace(int d) {
        int[] die = needDie(d).clone();
        int last = -1;
        while (!w.salt.get(d) && total(die) > 0) {
            last = minute(die);
        }
        return last;
    }

    int rain(int n) {
        needIn(n, 1, 20);
        int was = count(6);
        for (int d = 0; d < w.dice.size(); d++) {
            for (int i = 0; i < 6 && !w.salt.get(d); i++) {
                w.dice.get(d)[i] = Math.max(0, w.dice.get(d)[i] - n);
            }
        }
        return was - count(6);
    }

    int fan(int h) {
        needHand(h);
        return w.heats.set(h, 0);
    }

    int lot(int seed) {
        List<Integer> left = new ArrayList<>();
        for (int d = 0; d < w.dice.size(); d++) {
            left.add(d);
        }
        int x = seed;
        int got = 0;
        for (int h = 0; h < w.heats.size(); h++) {
            w.lots.set(h, -1);
            if (!left.isEmpty()) {
                x = next(x);
                w.lots.set(h, left.remove((x >>> 16) % left.size()));
                got++;
            }
        }
        return got;
    }

    private interface Kind {
        boolean is(int[] faces);
    }

    private List<int[]> needSet(int set) {
        no(set < 0 || set >> w.dice.size() != 0, argument());
        List<int[]> dice = new ArrayList<>();
        for (int d = 0; d < w.dice.size(); d++) {
            if ((set >> d & 1) == 1) {
                dice.add(w.dice.get(d));
            }
        }
        return dice;
    }

    private List<int[]> needWhole(int set) {
        List<int[]> dice = needSet(set);
        no(dice.stream().anyMatch(die -> total(die) == 0), state());
        return dice;
    }

    private static long ways(List<int[]> dice, Kind kind) {
        return ways(dice, new int[dice.size()], 0, 1, kind);
    }

    private static long ways(List<int[]> dice, int[] faces, int at, long product, Kind kind) {
        if (product == 0) {
            return 0;
        }
        if (at == dice.size()) {
            return kind.is(faces) ? product : 0;
        }
        long together = 0;
        for (int face = 1; face <= 6; face++) {
            faces[at] = face;
            together += ways(dice, faces, at + 1, product * dice.get(at)[face - 1], kind);
        }
        return together;
    }

    private static int sumOf(int[] faces) {
        return Arrays.stream(faces).sum();
    }

    private static int unlikeOnes(int[] faces) {
        return (int) Arrays.stream(faces).distinct().count();
    }

    long whole(int set) {
        return ways(needWhole(set), f -> true);
    }

    long sum(int set, int sum) {
        return ways(needWhole(set), f -> sumOf(f) == sum);
    }

    long least(int set, int sum) {
        return ways(needWhole(set), f -> sumOf(f) >= sum);
    }

    long alike(int set) {
        return ways(needWhole(set), f -> unlikeOnes(f) <= 1);
    }

    private static long[] allSums(List<int[]> dice) {
        long[] sums = new long[31];
        for (int s = 0; s <= 30; s++) {
            int sum = s;
            sums[s] = ways(dice, f -> sumOf(f) == sum);
        }
        return sums;
    }

    int mode(int set) {
        long[] sums = allSums(needWhole(set));
        long most = Arrays.stream(sums).max().getAsLong();
        int s = 0;
        while (sums[s] != most) {
            s++;
        }
        return s;
    }

    int sums(int set) {
        long[] sums = allSums(needWhole(set));
        int bits = 0;
        for (int s = 0; s <= 30; s++) {
            bits += sums[s] > 0 ? 1 << s : 0;
        }
        return bits;
    }

    long mean(int set, int what) {
        needSet(set);
        needIn(what, 0, 1);
        long[] sums = allSums(needWhole(set));
        long together = 0;
        for (int s = 0; s <= 30; s++) {
            together += s * sums[s];
        }
        return what == 0 ? together / whole(set) : together % whole(set);
    }

    int bestSet(int n, int sum) {
        needIn(n, 1, 3);
        int best = -1;
        for (int set = (1 << w.dice.size()) - 1; set > 0; set--) {
            if (Integer.bitCount(set) != n || needSet(set).stream().anyMatch(die -> total(die) == 0)) {
                continue;
            }
            if (best < 0 || least(set, sum) * whole(best) >= least(best, sum) * whole(set)) {
                best = set;
            }
        }
        return best;
    }

    long unlike(int set) {
        return ways(needWhole(set), f -> unlikeOnes(f) == f.length);
    }

    long run(int set) {
        return ways(needWhole(set), f -> {
            int[] order = f.clone();
            Arrays.sort(order);
            for (int i = 1; i < order.length; i++) {
                if (order[i] != order[i - 1] + 1) {
                    return false;
                }
            }
            return true;
        });
    }

    int cannot(int face) {
        needFace(face);
        int bits = 0;
        for (int d = 0; d < w.dice.size(); d++) {
            bits += w.dice.get(d)[face - 1] == 0 ? 1 << d : 0;
        }
        return bits;
    }

    private static long power(long base, int n) {
        return BigInteger.valueOf(base).pow(n).longValueExact();
    }

    /** Ways of n throws in which only told faces show. */
    private static long only(int[] die, int n, IntPredicate told) {
        long part = 0;
        for (int face = 1; face <= 6; face++) {
            part += told.test(face) ? die[face - 1] : 0;
        }
        return power(part, n);
    }

    long once(int d, int face, int n) {
        int[] die = needDie(d);
        needFace(face);
        needIn(n, 1, 8);
        no(total(die) == 0, state());
        return only(die, n, f -> true) - only(die, n, f -> f != face);
    }

    long allFaces(int d, int n) {
        int[] die = needDie(d);
        needIn(n, 1, 8);
        no(total(die) == 0, state());
        int have = 0;
        for (int face = 1; face <= 6; face++) {
            have += die[face - 1] > 0 ? 1 << face : 0;
        }
        long together = 0;
        for (int set = 0; set < 128; set++) {
            if ((set & ~have) == 0) {
                int faces = set;
                long sign = Integer.bitCount(have ^ set) % 2 == 0 ? 1 : -1;
                together += sign * only(die, n, f -> (faces >> f & 1) == 1);
            }
        }
        return together;
    }

    long coins(int d, int coins, int goal, int n) {
        int[] die = needDie(d);
        needIn(coins, 1, 9);
        needIn(goal, coins + 1, 10);
        needIn(n, 0, 8);
        no(total(die) == 0, state());
        long[] have = new long[11];
        have[coins] = 1;
        for (int i = 0; i < n; i++) {
            long[] then = new long[11];
            for (int c = 0; c <= goal; c++) {
                for (int face = 1; face <= 6; face++) {
                    int to = c == 0 || c == goal ? c : face > 3 ? c + 1 : c - 1;
                    then[to] += have[c] * die[face - 1];
                }
            }
            have = then;
        }
        return have[goal];
    }

    private List<int[]> needTwo(int a, int b) {
        List<int[]> two = new ArrayList<>(Arrays.asList(needDie(a), needDie(b)));
        no(total(two.get(0)) == 0 || total(two.get(1)) == 0, state());
        return two;
    }

    int beats(int a, int b) {
        return (int) ways(needTwo(a, b), f -> f[0] > f[1]);
    }

    int ties(int a, int b) {
        return (int) ways(needTwo(a, b), f -> f[0] == f[1]);
    }

    private boolean gone(int d) {
        return total(w.dice.get(d)) == 0;
    }

    private boolean better(int a, int b) {
        return !gone(a) && !gone(b) && beats(a, b) > beats(b, a);
    }

    int strongest() {
        int best = -1;
        int most = -1;
        for (int d = 0; d < w.dice.size(); d++) {
            int than = 0;
            for (int other = 0; other < w.dice.size(); other++) {
                than += better(d, other) ? 1 : 0;
            }
            if (!gone(d) && than > most) {
                best = d;
                most = than;
            }
        }
        return best;
    }

    int ring(int k) {
        List<Integer> rings = new ArrayList<>();
        int n = w.dice.size();
        for (int number = 0; number < 500; number++) {
            int a = number / 100;
            int b = number / 10 % 10;
            int c = number % 10;
            if (a < b && a < c && b < n && c < n && better(a, b) && better(b, c) && better(c, a)) {
                rings.add(number);
            }
        }
        return k == -1 ? rings.size() : k >= 0 && k < rings.size() ? rings.get(k) : -1;
    }

    long series(int a, int b, int n) {
        needTwo(a, b);
        needIn(n, 1, 3);
        int[] game = {beats(b, a), ties(a, b), beats(a, b), 0, 0, 0};
        List<int[]> games = new ArrayList<>();
        for (int i = 0; i < n; i++) {
            games.add(game);
        }
        return ways(games, f -> sumOf(f) > 2 * n);
    }

    long more(int a, int b, int n) {
        needTwo(a, b);
        needIn(n, 1, 3);
        List<int[]> all = new ArrayList<>();
        for (int i = 0; i < 2 * n; i++) {
            all.add(w.dice.get(i < n ? a : b));
        }
        return ways(all, f -> sumOf(Arrays.copyOfRange(f, 0, n)) > sumOf(Arrays.copyOfRange(f, n, 2 * n)));
    }

    int evenest() {
        int best = -1;
        double part = 2;
        for (int a = 0; a < w.dice.size(); a++) {
            for (int b = a + 1; b < w.dice.size(); b++) {
                if (gone(a) || gone(b)) {
                    continue;
                }
                double here = Math.abs(beats(a, b) - beats(b, a)) / ((double) total(w.dice.get(a)) * total(w.dice.get(b)));
                if (here < part - 1e-12) {
                    best = 10 * a + b;
                    part = here;
                }
            }
        }
        return best;
    }

    private static BigInteger best(int[] die, int n) {
        if (n == 0) {
            return BigInteger.ZERO;
        }
        BigInteger on = best(die, n - 1);
        BigInteger together = BigInteger.ZERO;
        for (int face = 1; face <= 6; face++) {
            BigInteger stop = BigInteger.valueOf(face).multiply(BigInteger.valueOf(total(die)).pow(n - 1));
            together = together.add(stop.max(on).multiply(BigInteger.valueOf(die[face - 1])));
        }
        return together;
    }

    long stopping(int d, int n, int what) {
        int[] die = needDie(d);
        no(total(die) == 0, state());
        needIn(n, 1, 5);
        needIn(what, 0, 2);
        if (what < 2) {
            return best(die, n).divideAndRemainder(BigInteger.valueOf(total(die)).pow(n))[what].longValueExact();
        }
        BigInteger unit = BigInteger.valueOf(total(die)).pow(n - 1);
        int face = 1;
        while (unit.multiply(BigInteger.valueOf(face)).compareTo(best(die, n - 1)) < 0) {
            face++;
        }
        return face;
    }

    private int[] needFaces(int tray) {
        long[] numbers = needTray(tray);
        needIn(numbers.length, 1, 5);
        for (long number : numbers) {
            needFace(number);
        }
        return Arrays.stream(numbers).mapToInt(n -> (int) n).toArray();
    }

    int likelier(int tray) {
        int[] faces = needFaces(tray);
        int best = -1;
        BigInteger[] odds = {BigInteger.ZERO, BigInteger.ONE};
        for (int d = 0; d < w.dice.size(); d++) {
            BigInteger ways = BigInteger.ONE;
            for (int face : faces) {
                ways = ways.multiply(BigInteger.valueOf(w.dice.get(d)[face - 1]));
            }
            BigInteger whole = BigInteger.valueOf(total(w.dice.get(d))).pow(faces.length);
            if (ways.multiply(odds[1]).compareTo(odds[0].multiply(whole)) > 0) {
                best = d;
                odds = new BigInteger[] {ways, whole};
            }
        }
        return best;
    }

    int fits(int tray) {
        int[] faces = needFaces(tray);
        return fits(faces, 0);
    }

    private int fits(int[] faces, int at) {
        if (at == faces.length) {
            return 1;
        }
        int together = 0;
        for (int[] die : w.dice) {
            together += die[faces[at] - 1] > 0 ? fits(faces, at + 1) : 0;
        }
        return together;
    }

    int worn(int d, int tray, int total, int k) {
        needDie(d);
        int[] faces = needFaces(tray);
        List<Integer> rows = new ArrayList<>();
        World was = w;
        w = w.copy();
        wear(d, faces, 0, 0, total, rows);
        w = was;
        return k == -1 ? rows.size() : k >= 0 && k < rows.size() ? rows.get(k) : -1;
    }

    private void wear(int d, int[] faces, int at, int row, int total, List<Integer> rows) {
        if (at == faces.length) {
            if (total(w.dice.get(d)) == total) {
                rows.add(row);
            }
            return;
        }
        for (int h = 0; h < w.heats.size(); h++) {
            if (w.dice.get(d)[faces[at] - 1] > 0) {
                World was = w;
                thrown(d, h, faces[at]);
                wear(d, faces, at + 1, 4 * row + h, total, rows);
                w = was;
            }
        }
    }

    int tally(int d, int face) {
        needDie(d);
        needFace(face);
        return (int) w.thrown.stream().filter(t -> t[0] == d && t[2] == face).count();
    }

    int streak(int face) {
        needFace(face);
        StringBuilder row = new StringBuilder();
        w.thrown.forEach(t -> row.append(t[2]));
        int longest = 0;
        while (row.indexOf(String.valueOf(face).repeat(longest + 1)) >= 0) {
            longest++;
        }
        return longest;
    }

    int off(int d) {
        needDie(d);
        int far = 0;
        for (int face = 1; face <= 6; face++) {
            far += Math.abs(6 * tally(d, face) - die(d, 10));
        }
        return far;
    }

    int loaded() {
        int best = -1;
        for (int d = w.dice.size() - 1; d >= 0; d--) {
            if (off(d) > 0 && (best < 0 || off(d) >= off(best))) {
                best = d;
            }
        }
        return best;
    }

    void tray(int tray, int sort, int many) {
        no(tray < 0 || tray > 3, noSuch());
        needIn(sort, 0, 3);
        needIn(many, 0, 30);
        trays[tray] = new long[many];
        sorts[tray] = sort;
    }

    long write(int tray, int place, long v) {
        long[] numbers = needTray(tray);
        no(place < 0 || place >= numbers.length, new IndexOutOfBoundsException());
        int shift = 64 - (8 << sorts[tray]);
        numbers[place] = v << shift >> shift;
        return numbers[place];
    }

    int pour(int tray) {
        long[] numbers = needTray(tray);
        int k = 0;
        while (k < numbers.length && k < w.thrown.size()) {
            numbers[k] = w.thrown.get(k)[2];
            k++;
        }
        return k;
    }

    void image(int i) {
        no(i < 0 || i > 2, noSuch());
        images[i] = w.copy();
    }

    void restore(int i) {
        no(i < 0 || i > 2, noSuch());
        no(images[i] == null, state());
        w = images[i].copy();
    }

    int count(int what) {
        return switch (what) {
            case 0 -> w.lines;
            case 1 -> w.dice.size();
            case 2 -> w.heats.size();
            case 3 -> w.ants;
            case 4 -> w.thrown.size();
            case 5 -> (int) w.dice.stream().filter(die -> total(die) == 0).count();
            case 6 -> w.dice.stream().mapToInt(PlainDice::total).sum();
            case 7 -> tape.length();
            default -> -1;
        };
    }
}
