import java.lang.reflect.InvocationTargetException;
import java.lang.reflect.Method;
import java.util.Arrays;
import java.util.Random;

/** Runs of 512 calls, drawn with fixed seeds, on a bench and on the model; each answer must be the same. */
public final class PlateauBenchAgainstModel {
    // Three runs of four draw mostly from one part of the face, so that its state grows rich.
    private static final String[] THEMES = {
        "",
        "cost lay town town town away least leastAnew bound gap isUsed isUsed isUsed twoWays apart",
        "cost lay pin pin pin pin pin film proof side side costOf",
        "cost lay pull pull pull pull pull pull pull pull pull hold breathe bubble wall corners rests energy",
    };
    private static final int[] ODD = {-1, Integer.MIN_VALUE, Integer.MAX_VALUE, 6, 8, 10, 36, 51, 60, 101};

    private PlateauBenchAgainstModel() {
    }

    public static void main(String[] args) throws ReflectiveOperationException {
        int first = args.length > 0 ? Integer.parseInt(args[0]) : 0;
        int runs = args.length > 1 ? Integer.parseInt(args[1]) : 24;
        Method[] methods = PlateauBench.class.getDeclaredMethods();
        methods = Arrays.stream(methods).filter(m -> java.lang.reflect.Modifier.isPublic(m.getModifiers())).toArray(Method[]::new);
        Arrays.sort(methods, (a, b) -> a.getName().compareTo(b.getName()));
        for (int seed = first; seed < first + runs; seed++) {
            run(seed, methods);
        }
        Check.end();
    }

    private static void run(int seed, Method[] methods) throws ReflectiveOperationException {
        Random random = new Random(seed);
        PlateauBench bench = new PlateauBench();
        Model model = new Model();
        // Some runs change little, so that least nets and films of equal cost come up.
        boolean isPlain = seed % 3 == 0;
        // The 512th call asks for the balance.
        for (int i = 0; i < 511; i++) {
            Method method = drawn(random, methods, THEMES[seed % THEMES.length]);
            String name = method.getName();
            boolean isSkipped = isPlain && (name.equals("lay") || name.equals("cost")) && random.nextInt(8) > 0;
            isSkipped |= name.equals("away") && random.nextInt(3) > 0;
            if (isSkipped) {
                continue;
            }
            Object[] arguments = arguments(random, method, seed);
            Object want = answer(Model.class.getMethod(name, method.getParameterTypes()), model, arguments);
            Check.due("seed " + seed + ", call " + i + ", " + name + Arrays.toString(arguments), answer(method, bench, arguments), want);
        }
        Check.due("seed " + seed + ", the energy's balance", bench.energy(4), 0);
    }

    private static Method drawn(Random random, Method[] methods, String theme) {
        if (theme.isEmpty() || random.nextInt(5) == 0) {
            return methods[random.nextInt(methods.length)];
        }
        String[] names = theme.split(" ");
        String name = names[random.nextInt(names.length)];
        return Arrays.stream(methods).filter(m -> m.getName().equals(name)).findFirst().get();
    }

    private static Object answer(Method method, Object of, Object[] arguments) throws ReflectiveOperationException {
        try {
            return method.invoke(of, arguments);
        } catch (InvocationTargetException e) {
            return e.getCause().getClass().getName();
        }
    }

    private static Object[] arguments(Random random, Method method, int seed) {
        Class<?>[] types = method.getParameterTypes();
        int[] ends = ends(method.getName());
        Object[] arguments = new Object[types.length];
        for (int i = 0; i < types.length; i++) {
            if (types[i] == boolean.class) {
                arguments[i] = random.nextInt(method.getName().equals("hold") ? 3 : 2) == 0;
            } else if (types[i] == long.class) {
                arguments[i] = film(random);
            } else if (random.nextInt(25) == 0) {
                arguments[i] = ODD[random.nextInt(ODD.length)];
            } else {
                arguments[i] = ends[2 * i] + random.nextInt(ends[2 * i + 1] - ends[2 * i] + 1);
            }
        }
        if (method.getName().equals("pull") && random.nextInt(2) == 0 && arguments[1].equals((int) arguments[1] & 7)) {
            arguments[1] = (int) arguments[1] % (2 + seed % 7);
        }
        return arguments;
    }

    private static Object film(Random random) {
        switch (random.nextInt(4)) {
            case 0: return random.nextLong();
            case 1: return random.nextLong() & random.nextLong() & random.nextLong() & (1L << 36) - 1;
            default: return random.nextLong() & (1L << 36) - 1;
        }
    }

    private static int[] ends(String name) {
        switch (name) {
            case "cost": return new int[] {0, 1, 1, 9};
            case "lay": return new int[] {0, 59, 0, 50};
            case "edge": case "isUsed": return new int[] {0, 59};
            case "apart": case "twoWays": return new int[] {0, 35, 0, 35};
            case "town": case "bubbleAt": return new int[] {0, 35};
            case "away": case "townAt": return new int[] {0, 5};
            case "pin": return new int[] {0, 35, 0, 2};
            case "pull": return new int[] {0, 35, 0, 7};
            case "hold": return new int[] {0, 7};
            case "breathe": return new int[] {1, 3};
            case "bubble": return new int[] {0, 7, 0, 4};
            case "wall": return new int[] {0, 7, 0, 7};
            case "corners": return new int[] {1, 4};
            case "energy": return new int[] {0, 4};
            default: return new int[0];
        }
    }
}
