import java.lang.management.ManagementFactory;
import java.lang.reflect.InvocationTargetException;
import java.lang.reflect.Method;
import java.lang.reflect.Modifier;
import java.util.ArrayList;
import java.util.Arrays;
import java.util.Comparator;
import java.util.List;
import java.util.Random;
import java.util.TreeSet;

/** The face is the document's and no more; no call throws, whatever the arguments; the calls make no objects. */
public final class LimitsTest {
    private static final String FACE = "feed(iiiii)i mill(ii)i fault()i told(ii)i sine(ii)i bucket(iiii)l holds(iii)i work(iiii)l "
            + "gives(iiiii)l best(iiiii)l parts(iii)i grid(iiiii)i model(iiii)l day(iib)b flow(i)i hours(i)i flood(i)i "
            + "seed(i)b ground(ii)l water(i)l shift(iiii)l rests(iii)i all(iii)i guilt(ii)b seen(ii)i raised(i)i "
            + "ruin(iii)i load(i)i rim()i teeth(iii)i losses(iiii)i night(iiiii)l versus(iiii)i balance(iiii)i "
            + "fall(ii)i buy(iiii)l sleep(ii)i comes(i)i order(ii)i served(ii)i dry(iii)i image()i restore(i)b count(i)i";
    private static final int[] EDGES = {Integer.MIN_VALUE, Integer.MIN_VALUE + 1, -2_000_000_000, -1000, -2, -1, 0, 1, 2, 3, 4, 5,
        6, 7, 9, 10, 23, 24, 39, 40, 50, 63, 64, 79, 80, 96, 99, 100, 101, 139, 140, 180, 181, 240, 241, 299, 300, 301, 400, 700,
        999, 1000, 4000, 9999, 10_000, 99_999, 100_000, 240_300, 999_999, 999_999_999, 1_000_000_000, Integer.MAX_VALUE - 1,
        Integer.MAX_VALUE};
    private static int wrong = 0;

    public static void main(String[] args) throws Exception {
        face();
        for (int seed = 0; seed < 400; seed++) {
            extremes(new Random(seed));
        }
        objects();
        System.out.println("the face, extreme arguments and objects made: " + wrong + " wrong");
        if (wrong != 0) {
            System.exit(1);
        }
    }

    private static void wrong(String what) {
        wrong++;
        System.out.println(what);
    }

    private static List<Method> publicMethods() {
        List<Method> all = new ArrayList<>();
        for (Method m : MillRow.class.getDeclaredMethods()) {
            if (Modifier.isPublic(m.getModifiers())) {
                all.add(m);
            } else if (!Modifier.isPrivate(m.getModifiers())) {
                wrong("neither public nor private: " + m);
            }
        }
        all.sort(Comparator.comparing(Method::getName));
        return all;
    }

    private static void face() {
        TreeSet<String> is = new TreeSet<>();
        TreeSet<String> names = new TreeSet<>();
        for (Method m : publicMethods()) {
            StringBuilder b = new StringBuilder(m.getName()).append('(');
            for (Class<?> c : m.getParameterTypes()) {
                b.append(c.getName().charAt(0));
            }
            is.add(b.append(')').append(m.getReturnType().getName().charAt(0)).toString());
            names.add(m.getName());
        }
        TreeSet<String> due = new TreeSet<>(Arrays.asList(FACE.split(" ")));
        if (!is.equals(due)) {
            wrong("the face is " + is);
        }
        for (Method m : MillRow.class.getDeclaredMethods()) {
            if (!Modifier.isPublic(m.getModifiers()) && names.contains(m.getName())) {
                wrong("a private method bears a public one's name: " + m);
            }
        }
        for (java.lang.reflect.Field f : MillRow.class.getDeclaredFields()) {
            boolean none = f.getName().equals("NONE") && Modifier.isPublic(f.getModifiers());
            if (!none && !Modifier.isPrivate(f.getModifiers())) {
                wrong("not private: " + f);
            }
        }
        if (MillRow.class.getConstructors().length != 1 || MillRow.class.getDeclaredConstructors().length != 1
                || !Modifier.isFinal(MillRow.class.getModifiers())) {
            wrong("one public constructor, a final class");
        }
    }

    private static void tell(MillRow x, int mill, String text) {
        byte[] b = text.getBytes();
        for (int i = 0; i < b.length; i += 20) {
            int[] five = new int[5];
            for (int k = 0; k < 20; k++) {
                five[k / 4] = five[k / 4] << 8 | (i + k < b.length ? b[i + k] & 255 : 32);
            }
            x.feed(five[0], five[1], five[2], five[3], five[4]);
        }
        x.mill(mill, b.length);
    }

    private static void extremes(Random random) throws Exception {
        MillRow x = new MillRow();
        int mills = random.nextInt(7);
        for (int i = 0; i < mills; i++) {
            boolean large = random.nextBoolean();
            tell(x, i, (random.nextInt(3) == 0 ? "wheel under " : "wheel over ") + (large ? "40 wide 20 buckets 4 deep 24 slant 9 at "
                    : "2 wide 1 buckets 80 deep 1 slant 0 at ") + (random.nextBoolean() ? "90;" : "0;") + (large ? "pace 300;" : "pace 1;")
                    + (random.nextBoolean() ? "pond 9999;rub 9999;" : "pond 1;nail 0;") + "gate 999 if hour<9999 and not(level>0 or below=0);gate 998;");
        }
        List<Method> all = publicMethods();
        for (int call = 0; call < 400; call++) {
            Method m = all.get(random.nextInt(all.size()));
            Class<?>[] types = m.getParameterTypes();
            Object[] args = new Object[types.length];
            for (int i = 0; i < args.length; i++) {
                int v = random.nextInt(3) == 0 ? random.nextInt(7) : EDGES[random.nextInt(EDGES.length)];
                args[i] = types[i] == int.class ? (Object) v : random.nextBoolean();
            }
            try {
                m.invoke(x, args);
            } catch (InvocationTargetException e) {
                wrong(m.getName() + Arrays.toString(args) + " threw " + e.getCause());
            }
            if (x.water(0) != x.water(1) + x.water(2) + x.water(3)) {
                wrong("water does not add up behind " + m.getName() + Arrays.toString(args));
            }
        }
    }

    /** The room for a run's objects is small, so no call but the constructor may make any. */
    private static void objects() {
        MillRow x = new MillRow();
        for (int i = 0; i < 6; i++) {
            tell(x, i, "wheel over 10 wide 2 buckets 20 deep 12;gate 5 if not (hour<3 or level>50);");
        }
        x.fall(10, 5);
        x.order(5, 5);
        x.day(0, 5000, false);
        x.day(1, 5000, false);
        long some = 0;
        long least = Long.MAX_VALUE;
        for (int round = 0; round < 3; round++) {
            long before = allocated();
            for (int i = 0; i < 100; i++) {
                some += x.rests(5, 300, -1) + x.all(5, 300, 1) + x.grid(0, 2, 40, 100_100, 0) + x.best(0, 500, 0, 0, 0)
                        + x.served(0, 500) + x.sleep(0, 0) + x.comes(0) + x.buy(0, 500, 500, 0) + x.dry(0, 5, -1)
                        + x.image() + x.feed(0x7768_6565, 0x6c20_6f76, 0x6572_2033, 0x2077_6964, 0x6520_3220) + x.mill(0, x.count(1))
                        + x.hours(1) + x.raised(0) + x.rim() + x.night(0, 500, 5, 5, 1) + x.versus(0, 1, 500, 5);
                x.restore(0);
            }
            least = Math.min(least, allocated() - before);
        }
        if (least > 10_000) {
            wrong("100 rounds of calls made objects of " + least + " bytes" + (some == 1 ? "" : "."));
        }
    }

    private static long allocated() {
        return ((com.sun.management.ThreadMXBean) ManagementFactory.getThreadMXBean())
                .getThreadAllocatedBytes(Thread.currentThread().getId());
    }
}
