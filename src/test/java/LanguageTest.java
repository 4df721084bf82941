import java.lang.management.ManagementFactory;
import java.lang.reflect.Constructor;
import java.lang.reflect.Field;
import java.lang.reflect.Method;
import java.lang.reflect.Modifier;
import java.util.Set;
import java.util.TreeSet;

/** The public face, and that calls make few objects: all calls of a run live in one room. */
public final class LanguageTest {
    private static final Expect expect = new Expect("LanguageTest");

    private static final String[] FACE = {
        "boolean rect(int,int,int,int,int)", "boolean point(int,int)", "boolean ring(int)",
        "boolean join(int,int,int,int)", "boolean size(int,int,int)", "boolean box(int,int,int,int,int)",
        "boolean at(int,int,int)", "boolean steps(int,int)", "boolean place(int,int,int,int)",
        "boolean clear(int)", "int expand(int,int,int,int)", "boolean filled(int,int,int)",
        "int measure(int,int)", "int check(int,int,int)", "int split(int)", "int item(int,int,int)",
        "int write()", "boolean put(int)", "int byteAt(int)", "int read(int)",
    };

    public static void main(String[] args) {
        publicFace();
        constant();
        nothingElse();
        classesInside();
        callsMakeFewObjects();
        expect.finish();
    }

    private static String signature(Method method) {
        StringBuilder text = new StringBuilder();
        text.append(method.getReturnType().getName()).append(' ').append(method.getName()).append('(');
        for (int i = 0; i < method.getParameterCount(); i++) {
            text.append(i == 0 ? "" : ",").append(method.getParameterTypes()[i].getName());
        }
        return text.append(')').toString();
    }

    private static void publicFace() {
        Set<String> due = new TreeSet<>(Set.of(FACE));
        Set<String> found = new TreeSet<>();
        Set<String> names = new TreeSet<>();
        for (Method method : MaskDesk.class.getDeclaredMethods()) {
            if (Modifier.isPublic(method.getModifiers())) {
                found.add(signature(method));
                names.add(method.getName());
                expect.no(method.getName() + " is static", Modifier.isStatic(method.getModifiers()));
            }
        }
        expect.yes("the face is " + found, found.equals(due));
        for (Method method : MaskDesk.class.getDeclaredMethods()) {
            if (!Modifier.isPublic(method.getModifiers())) {
                expect.no(method.getName() + " bears a public name", names.contains(method.getName()));
            }
        }
        expect.yes("the class is public", Modifier.isPublic(MaskDesk.class.getModifiers()));
        expect.yes("the class is final", Modifier.isFinal(MaskDesk.class.getModifiers()));
        Constructor<?>[] constructors = MaskDesk.class.getDeclaredConstructors();
        expect.due("constructors", constructors.length, 1);
        expect.yes("the constructor is public", Modifier.isPublic(constructors[0].getModifiers()));
        expect.due("the constructor's parameters", constructors[0].getParameterCount(), 0);
    }

    private static void nothingElse() {
        for (Method method : MaskDesk.class.getDeclaredMethods()) {
            int modifiers = method.getModifiers();
            expect.yes(method.getName() + " is public or private",
                Modifier.isPublic(modifiers) || Modifier.isPrivate(modifiers));
        }
        for (Field field : MaskDesk.class.getDeclaredFields()) {
            boolean constant = field.getName().equals("NONE");
            expect.due(field.getName() + " is public", Modifier.isPublic(field.getModifiers()), constant);
            expect.due(field.getName() + " is private", Modifier.isPrivate(field.getModifiers()), !constant);
        }
    }

    private static void constant() {
        try {
            Field none = MaskDesk.class.getField("NONE");
            int modifiers = none.getModifiers();
            expect.yes("NONE is static and final", Modifier.isStatic(modifiers) && Modifier.isFinal(modifiers));
            expect.yes("NONE is an int", none.getType() == int.class);
            expect.due("NONE", MaskDesk.NONE, -1000);
        } catch (NoSuchFieldException e) {
            expect.yes("NONE is a public field", false);
        }
    }

    private static void classesInside() {
        for (Class<?> one : MaskDesk.class.getDeclaredClasses()) {
            int modifiers = one.getModifiers();
            expect.no(one.getName() + " is public", Modifier.isPublic(modifiers) || Modifier.isProtected(modifiers));
            for (Field field : one.getDeclaredFields()) {
                if (Modifier.isStatic(field.getModifiers())) {
                    expect.yes(field.getName() + " is final", Modifier.isFinal(field.getModifiers()));
                }
            }
        }
    }

    private static void callsMakeFewObjects() {
        com.sun.management.ThreadMXBean threads =
            (com.sun.management.ThreadMXBean) ManagementFactory.getThreadMXBean();
        MaskDesk desk = new MaskDesk();
        threads.getCurrentThreadAllocatedBytes();
        long before = threads.getCurrentThreadAllocatedBytes();
        for (int i = 0; i < 12; i++) {
            everyCall(desk, i);
        }
        long made = threads.getCurrentThreadAllocatedBytes() - before;
        // Calls of the desk make none, the measuring itself may make a few; all calls of a run have
        // some 30 million bytes.
        expect.yes("calls make objects: " + made + " bytes", made < 10_000_000);
    }

    /** 40 calls, in which each of the face comes. */
    private static void everyCall(MaskDesk desk, int i) {
        desk.rect(0, i, 3, 4, 9);
        desk.rect(0, 2, i, 14, 2);
        desk.rect(1, 4, 4, 3, 3);
        desk.join(2, 0, 1, 3);
        desk.size(3, 2, 1);
        desk.size(3, 3, -1);
        for (int k = 0; k < 4; k++) {
            desk.point(k / 2 * 5, (k + 1) % 4 / 2 * 5);
        }
        desk.ring(4);
        desk.box(0, 0, 0, 1, 2);
        desk.at(i - 4, 1, i % 8);
        desk.steps(2, 1);
        desk.place(1, 0, 2, 2);
        desk.place(2, 1, 2, 1);
        desk.expand(4, 2, 8, 8);
        desk.filled(4, i, i);
        for (int what = 0; what < 5; what++) {
            desk.measure(2, what);
        }
        desk.check(2, 0, 5);
        desk.check(2, 1, 5);
        desk.split(2);
        desk.item(0, 0, 0);
        desk.item(1, 0, 0);
        desk.write();
        desk.byteAt(3);
        desk.read(5);
        desk.put(i);
        desk.read(5);
        desk.expand(6, 0, 0, 0);
        desk.clear(2);
        desk.clear(1);
        desk.put(300);
        desk.ring(0);
        desk.split(4);
        desk.write();
    }
}
