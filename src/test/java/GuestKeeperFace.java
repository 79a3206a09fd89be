import java.lang.reflect.Constructor;
import java.lang.reflect.Field;
import java.lang.reflect.Method;
import java.lang.reflect.Modifier;
import java.util.Random;
import java.util.TreeSet;

/** The public face is the document's and no more, and no call throws, whatever its arguments. */
public final class GuestKeeperFace {
    private static final String[] FACE = {
        "public GuestKeeper()",
        "public static final long GuestKeeper.NOTHING",
        "public long GuestKeeper.read(int,int)",
        "public boolean GuestKeeper.write(int,int,int)",
        "public int GuestKeeper.faults()",
        "public int GuestKeeper.create(int)",
        "public int GuestKeeper.feed(int,int)",
        "public int GuestKeeper.donate(int,int,int)",
        "public int GuestKeeper.lend(int,int,int)",
        "public boolean GuestKeeper.takeBack(int)",
        "public boolean GuestKeeper.destroy(int)",
        "public boolean GuestKeeper.reclaim(int)",
        "public boolean GuestKeeper.load(int,int)",
        "public boolean GuestKeeper.put()",
        "public int GuestKeeper.run(int,int)",
        "public int GuestKeeper.info()",
        "public boolean GuestKeeper.set(int,int)",
        "public int GuestKeeper.register(int)",
        "public int GuestKeeper.owner(int)",
        "public int GuestKeeper.state(int)",
        "public int GuestKeeper.pool(int)",
        "public int GuestKeeper.tables(int)",
    };

    private static int wrong = 0;

    private GuestKeeperFace() {
    }

    public static void main(String[] args) throws Exception {
        checkMembers();
        callWithAnything();
        System.out.println(wrong == 0 ? "the face is as due" : wrong + " faults in the face");
        if (wrong != 0) {
            System.exit(1);
        }
    }

    private static void complain(String what) {
        wrong++;
        System.out.println(what);
    }

    private static void checkMembers() {
        TreeSet<String> missing = new TreeSet<>();
        for (String member : FACE) {
            missing.add(member);
        }
        TreeSet<String> publicNames = new TreeSet<>();
        for (Constructor<?> c : GuestKeeper.class.getDeclaredConstructors()) {
            checkMember(missing, c.getModifiers(), c.toString());
        }
        for (Field f : GuestKeeper.class.getDeclaredFields()) {
            checkMember(missing, f.getModifiers(), f.toString());
        }
        for (Method m : GuestKeeper.class.getDeclaredMethods()) {
            checkMember(missing, m.getModifiers(), m.toString());
            if (Modifier.isPublic(m.getModifiers())) {
                publicNames.add(m.getName());
            }
        }
        for (Method m : GuestKeeper.class.getDeclaredMethods()) {
            if (Modifier.isPrivate(m.getModifiers()) && publicNames.contains(m.getName())) {
                complain("a private method bears a public name: " + m);
            }
        }
        for (String member : missing) {
            complain("missing: " + member);
        }
        int modifiers = GuestKeeper.class.getModifiers();
        if (!Modifier.isPublic(modifiers) || !Modifier.isFinal(modifiers)) {
            complain("the class is not public and final");
        }
    }

    private static void checkMember(TreeSet<String> missing, int modifiers, String member) {
        if (!Modifier.isPrivate(modifiers) && !missing.remove(member)) {
            complain("not of the face: " + member);
        }
    }

    private static void callWithAnything() throws Exception {
        Method[] methods = GuestKeeper.class.getDeclaredMethods();
        java.util.Arrays.sort(methods, (l, r) -> l.toString().compareTo(r.toString()));
        int[] edges = {0, 1, 2, 3, 4, 6, 7, 23, 24, 63, 64, 65, -1, Integer.MAX_VALUE, Integer.MIN_VALUE};
        for (int seed = 0; seed < 200; seed++) {
            Random random = new Random(seed);
            GuestKeeper x = new GuestKeeper();
            for (int call = 0; call < 2000; call++) {
                Method m = methods[random.nextInt(methods.length)];
                if (!Modifier.isPublic(m.getModifiers())) {
                    continue;
                }
                Object[] arguments = new Object[m.getParameterCount()];
                for (int i = 0; i < arguments.length; i++) {
                    int edge = edges[random.nextInt(edges.length)];
                    arguments[i] = random.nextInt(8) == 0 ? random.nextInt() : edge;
                }
                m.invoke(x, arguments);
            }
        }
    }
}
