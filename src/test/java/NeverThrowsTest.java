import java.lang.reflect.InvocationTargetException;
import java.lang.reflect.Method;
import java.lang.reflect.Modifier;
import java.util.ArrayList;
import java.util.Arrays;
import java.util.Comparator;
import java.util.List;
import java.util.Random;

/** Whatever numbers are told, in whatever state, no call throws. The lots are always the same. */
public final class NeverThrowsTest {
    private static final int RUNS = 3000, CALLS = 512;
    private static final int[] FAR = {Integer.MIN_VALUE, Integer.MIN_VALUE + 1, -1000001, -1001, -101, -33, -2, -1, 59, 60, 61, 99,
        100, 101, 127, 128, 1000, 1001, 9999, 10000, 100000, 100001, 1000000, 1000001, Integer.MAX_VALUE - 1, Integer.MAX_VALUE};

    private static List<Method> face() {
        List<Method> all = new ArrayList<>();
        for (Method m : FlyerRoom.class.getDeclaredMethods()) {
            if (Modifier.isPublic(m.getModifiers())) all.add(m);
        }
        // The machine tells them in no order that it promises.
        all.sort(Comparator.comparing(Method::getName));
        return all;
    }

    private static int number(Random lots, boolean wild) {
        if (wild && lots.nextInt(3) == 0) return lots.nextInt(4) == 0 ? lots.nextInt() : FAR[lots.nextInt(FAR.length)];
        return lots.nextInt(lots.nextInt(4) == 0 ? 42 : 12);
    }

    private static Integer[] numbers(Random lots, Method m, FlyerRoom x) {
        boolean wild = lots.nextInt(4) == 0;
        Integer[] given = new Integer[m.getParameterCount()];
        for (int i = 0; i < given.length; i++) given[i] = number(lots, wild);
        // Rules are seldom read, frames seldom due and seals never right without some help.
        if (m.getName().equals("write") && !wild) given[0] = (int) "0123456789hvndmf()!-+*/<>=&| ".charAt(lots.nextInt(29));
        if (m.getName().equals("harm") && !wild) given[1] = x.now(4) + lots.nextInt(3);
        if (m.getName().equals("begin") && !wild) {
            given[0] = x.now(4) + lots.nextInt(3);
            given[1] = x.seal(1);
        }
        return given;
    }

    private static boolean holds(long seed, List<Method> face) throws IllegalAccessException {
        Random lots = new Random(seed);
        FlyerRoom x = new FlyerRoom();
        List<String> told = new ArrayList<>();
        for (int i = 0; i < CALLS; i++) {
            Method m = face.get(lots.nextInt(face.size()));
            // Frames are not gone at once, so that steps and lanes can be told.
            if (m.getName().equals("fly") && i < 60) continue;
            Integer[] given = numbers(lots, m, x);
            told.add(m.getName() + Arrays.toString(given));
            try {
                m.invoke(x, (Object[]) given);
            } catch (InvocationTargetException e) {
                System.out.println("seed " + seed + ": " + e.getCause() + " behind " + told);
                return false;
            }
        }
        return true;
    }

    public static void main(String[] args) throws IllegalAccessException {
        int runs = args.length > 0 ? Integer.parseInt(args[0]) : RUNS;
        List<Method> face = face();
        int wrong = face.size() == 37 ? 0 : 1;
        for (int seed = 1; seed <= runs; seed++) {
            if (!holds(seed, face)) wrong++;
        }
        System.out.println(wrong == 0 ? "no call throws" : wrong + " runs are wrong, the face has " + face.size() + " calls");
        if (wrong != 0) System.exit(1);
    }
}
