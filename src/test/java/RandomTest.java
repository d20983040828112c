import java.lang.reflect.InvocationTargetException;
import java.lang.reflect.Method;
import java.util.ArrayList;
import java.util.Comparator;
import java.util.List;
import java.util.Random;

/** All promises: runs of calls by chance (the same each time), each answer compared with PlainDice's. */
public final class RandomTest {
    private static final int RUNS = 1000;
    private static final int CALLS = 512;
    private static final int[] EDGES = {-1, 0, 1, 7, 8, 9, 10, 20, 21, 30, 31, 40, 41, 60, 99, 100, 1 << 30, Integer.MIN_VALUE, Integer.MAX_VALUE};

    private final Random chance;
    private final SugarDice dice = new SugarDice();
    private final PlainDice plain = new PlainDice();
    private final List<String> told = new ArrayList<>();
    private int calls = 0;

    private RandomTest(long seed) {
        chance = new Random(seed);
    }

    public static void main(String[] args) throws ReflectiveOperationException {
        List<Method> methods = new ArrayList<>(List.of(SugarDice.class.getDeclaredMethods()));
        methods.removeIf(m -> !java.lang.reflect.Modifier.isPublic(m.getModifiers()));
        methods.sort(Comparator.comparing(Method::getName));
        for (int seed = 1; seed <= RUNS; seed++) {
            new RandomTest(seed).run(methods, seed);
        }
        System.out.println(RUNS + " runs of " + CALLS + " calls were answered as due");
    }

    private void run(List<Method> methods, int seed) throws ReflectiveOperationException {
        while (calls < CALLS) {
            int what = chance.nextInt(30);
            if (what == 0) {
                table();
            } else if (what <= 3) {
                tray();
            } else if (what <= 8) {
                call(methodOf(methods, chance.nextBoolean() ? "shows" : "cast"), null);
            } else {
                Method m = methods.get(chance.nextInt(methods.size()));
                // Tables and what ruins dice come more seldom, or most runs would have none to ask about.
                boolean seldom = List.of("table", "feed", "rain", "ants", "restore", "salts").contains(m.getName());
                if (!seldom || chance.nextInt(5) == 0) {
                    call(m, null);
                }
            }
        }
        if (!told.isEmpty()) {
            System.out.println("run " + seed + ":");
            told.forEach(System.out::println);
            System.exit(1);
        }
    }

    private static Method methodOf(List<Method> methods, String name) {
        return methods.stream().filter(m -> m.getName().equals(name)).findFirst().orElseThrow();
    }

    private void table() throws ReflectiveOperationException {
        String text = text();
        for (int from = 0; from < text.length(); from += 20) {
            Object[] ints = {0, 0, 0, 0, 0};
            for (int i = 0; i < 20; i++) {
                int sign = from + i < text.length() ? text.charAt(from + i) : ' ';
                ints[i / 4] = (int) ints[i / 4] | sign << 24 - i % 4 * 8;
            }
            call(SugarDice.class.getMethod("feed", int.class, int.class, int.class, int.class, int.class), ints);
        }
        call(SugarDice.class.getMethod("table", int.class), new Object[] {Math.min(plain.count(7), text.length())});
        call(SugarDice.class.getMethod("fault", int.class), new Object[] {0});
        call(SugarDice.class.getMethod("fault", int.class), new Object[] {1});
    }

    /** A table's text, now and then with a fault somewhere. */
    private String text() {
        StringBuilder s = new StringBuilder();
        int many = chance.nextInt(6) + chance.nextInt(5);
        int high = chance.nextBoolean() ? 21 : 6;
        for (int i = 0; i < many; i++) {
            int kind = chance.nextInt(9);
            if (kind < 4) {
                s.append("die");
                for (int face = 0; face < 6; face++) {
                    s.append(' ').append(chance.nextInt(4) == 0 ? 0 : chance.nextInt(high));
                }
                s.append(chance.nextInt(5) == 0 ? " salt" : "").append(';');
            } else if (kind < 8) {
                s.append("hand ").append(chance.nextInt(chance.nextInt(3) == 0 ? 10 : 3)).append(";");
            } else {
                s.append("\nants ").append(1 + chance.nextInt(6)).append(" ;");
            }
        }
        if (chance.nextInt(4) == 0 && s.length() > 0) {
            String signs = " \n;;019?dieA{/:`salt\0\377";
            int faults = 1 + chance.nextInt(2);
            for (int i = 0; i < faults; i++) {
                int at = chance.nextInt(s.length());
                if (chance.nextBoolean()) {
                    s.insert(at, signs.charAt(chance.nextInt(signs.length())));
                } else {
                    s.setCharAt(at, signs.charAt(chance.nextInt(signs.length())));
                }
            }
        }
        return s.toString();
    }

    private void tray() throws ReflectiveOperationException {
        int tray = chance.nextInt(4);
        int many = 1 + chance.nextInt(5);
        boolean faces = chance.nextBoolean();
        call(SugarDice.class.getMethod("tray", int.class, int.class, int.class), new Object[] {tray, 1 + chance.nextInt(3), many});
        for (int i = 0; i < many; i++) {
            long v = 1 + chance.nextInt(6) + (faces ? 0 : 100 * chance.nextInt(4) + 10 * chance.nextInt(3));
            call(SugarDice.class.getMethod("write", int.class, int.class, long.class), new Object[] {tray, i, v});
        }
    }

    private Object[] arguments(Method m) {
        Object[] values = new Object[m.getParameterCount()];
        for (int i = 0; i < values.length; i++) {
            if (m.getParameterTypes()[i] == long.class) {
                values[i] = chance.nextInt(3) == 0 ? chance.nextLong() : (long) chance.nextInt(500);
            } else {
                int sort = chance.nextInt(40);
                values[i] = sort == 0 ? EDGES[chance.nextInt(EDGES.length)] : sort < 4 ? chance.nextInt(35) - 1
                    : sort < 24 ? chance.nextInt(4) : chance.nextInt(8);
            }
        }
        if (m.getName().equals("cast") || m.getName().equals("evening") || m.getName().equals("lot")) {
            values[m.getName().equals("cast") ? 2 : 0] = chance.nextInt();
        }
        if (m.getName().equals("evening") && chance.nextBoolean()) {
            values[1] = chance.nextInt(42);
        }
        if (m.getName().equals("worn")) {
            values[2] = chance.nextInt(60) - 1;
            values[3] = chance.nextInt(4) - 1;
        }
        return values;
    }

    private void call(Method m, Object[] given) throws ReflectiveOperationException {
        if (calls == CALLS) {
            return;
        }
        calls += 2;
        Object[] values = given == null ? arguments(m) : given;
        Method other = PlainDice.class.getDeclaredMethod(m.getName(), m.getParameterTypes());
        String got = answer(m, dice, values);
        String want = answer(other, plain, values);
        String trail = m.getName() + java.util.Arrays.toString(values);
        if (!got.equals(want)) {
            told.add("call " + calls + ", " + trail + " answered " + got + ", due is " + want);
            calls = CALLS;
            return;
        }
        sameCount(trail, chance.nextInt(8));
    }

    private void sameCount(String behind, int what) {
        int got = dice.count(what);
        if (got != plain.count(what)) {
            told.add("call " + calls + ", behind " + behind + ": count(" + what + ") is " + got + ", due is " + plain.count(what));
            calls = CALLS;
        }
    }

    private static String answer(Method m, Object on, Object[] values) throws ReflectiveOperationException {
        try {
            return String.valueOf(m.invoke(on, values));
        } catch (InvocationTargetException e) {
            return e.getCause().getClass().getName();
        }
    }
}
