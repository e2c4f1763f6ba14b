import java.lang.management.ManagementFactory;
import java.lang.reflect.Constructor;
import java.lang.reflect.Field;
import java.lang.reflect.Method;
import java.lang.reflect.Modifier;
import java.util.Set;
import java.util.TreeSet;

/** Looks at the class's public face, at wild arguments in every state, and at what the calls make on the heap. */
public final class FaceTest {
    private static final Set<String> FACE = Set.of(
        "boolean fund(int,int)", "boolean deposit(int,int)", "boolean withdraw(int)", "boolean reserve(int,int)",
        "boolean type(char)", "int submit(int)", "int worth(int,int)", "int parts(int)", "int welfare(int)",
        "int close()", "boolean reopen()", "int owner(int)", "int paid(int)", "int cash(int)", "int escrow(int)",
        "int seller()", "int state()");
    private static final Set<String> CONSTANTS = Set.of("NONE", "REFUSED", "OVER");
    private static final int[] WILD = {Integer.MIN_VALUE, -65, -3, -2, -1, 0, 1, 4, 5, 6, 63, 64, 999, 1000, 100000,
        100001, 1 << 30, Integer.MAX_VALUE};

    private static int wrong = 0;

    private static void due(String what, boolean holds) {
        if (!holds) {
            wrong++;
            System.out.println("not so: " + what);
        }
    }

    private static void members() {
        due("the class is public and final", Modifier.isPublic(BundleAuction.class.getModifiers())
            && Modifier.isFinal(BundleAuction.class.getModifiers()));
        Set<String> seen = new TreeSet<>();
        Set<String> names = new TreeSet<>();
        for (Method m : BundleAuction.class.getDeclaredMethods()) {
            if (Modifier.isPrivate(m.getModifiers())) continue;
            String arguments = "";
            for (Class<?> c : m.getParameterTypes()) arguments += (arguments.isEmpty() ? "" : ",") + c.getSimpleName();
            seen.add(m.getReturnType().getSimpleName() + " " + m.getName() + "(" + arguments + ")");
            names.add(m.getName());
            due(m + " is public and of the object", Modifier.isPublic(m.getModifiers())
                && !Modifier.isStatic(m.getModifiers()));
        }
        due("the methods are those of the document: " + seen, seen.equals(FACE));
        Set<String> fields = new TreeSet<>();
        for (Field f : BundleAuction.class.getDeclaredFields()) {
            if (!Modifier.isPrivate(f.getModifiers())) fields.add(f.getName());
        }
        due("the constants are those of the document: " + fields, fields.equals(CONSTANTS));
        for (Constructor<?> c : BundleAuction.class.getDeclaredConstructors()) {
            due(c + " is public and without arguments", Modifier.isPublic(c.getModifiers()) && c.getParameterCount() == 0);
        }
        for (Class<?> inside : BundleAuction.class.getDeclaredClasses()) {
            due(inside + " is private and static", Modifier.isPrivate(inside.getModifiers())
                && Modifier.isStatic(inside.getModifiers()));
            for (Method m : inside.getDeclaredMethods()) due(m + " has a name of its own", !names.contains(m.getName()));
        }
    }

    private static void allCalls(BundleAuction x, int m, int n) {
        x.fund(m, n);
        x.deposit(m, n);
        x.reserve(m, n);
        x.type((char) n);
        x.worth(m, n);
        x.parts(m);
        x.welfare(m);
        x.owner(m);
        x.paid(m);
        x.cash(m);
        x.escrow(m);
        x.seller();
        x.state();
        x.submit(m);
        x.withdraw(m);
    }

    // A call that throws ends the test with an exit code of its own. No answer is asked here, so the object may go far
    // beyond its 512 calls: rule 7 of LANGUAGE.md lets no call throw in any state.
    private static void wildArguments() {
        BundleAuction x = new BundleAuction();
        for (int m : WILD) {
            for (int n : WILD) {
                allCalls(x, m, n);
                x.close();
                allCalls(x, m, n);
                x.reopen();
            }
        }
    }

    private static long bytesMade() {
        return ((com.sun.management.ThreadMXBean) ManagementFactory.getThreadMXBean())
            .getThreadAllocatedBytes(Thread.currentThread().getId());
    }

    private static void dearestCalls(BundleAuction x, char[] text) {
        for (int call = 0; call < 11; call++) {
            for (char c : text) x.type(c);
            x.submit(call % 5);
            x.welfare(-1);
            x.close();
            x.reopen();
        }
    }

    private static void room() {
        char[] text = "((((((((1a+1b)+1c)+1d)+1e)+1f)<3)<2)".toCharArray();
        dearestCalls(new BundleAuction(), text);
        BundleAuction x = new BundleAuction();
        bytesMade();
        long before = bytesMade();
        dearestCalls(x, text);
        long made = bytesMade() - before;
        due("no call makes an object, but " + made + " bytes were made", made < 1000);
        before = bytesMade();
        new BundleAuction();
        made = bytesMade() - before;
        due("a new object takes at most 12000 bytes, not " + made, made < 12000);
    }

    public static void main(String[] args) {
        members();
        wildArguments();
        room();
        System.out.println(wrong == 0 ? "the face is as due" : wrong + " things are not as due");
        if (wrong != 0) System.exit(1);
    }
}
