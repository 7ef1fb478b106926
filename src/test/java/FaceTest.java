import java.lang.reflect.Field;
import java.lang.reflect.Method;
import java.lang.reflect.Modifier;
import java.util.Arrays;
import java.util.Set;
import java.util.TreeSet;
import java.util.stream.Collectors;

/** The public face: just the constructor and the methods of the document, and nothing else visible. */
public final class FaceTest {
    private static final String FACE = """
        int mood(int,int); int recall(int,int); int houseOf(int,int); int now(int); int beard(int);
        int of(int,int); int can(int,int,int); int set(int,int,int); int turn(int,int); int as(int,int);
        int wearer(int); int wearerOf(int,int); int give(int,int,int); int hire(int,int); int back(int);
        int nights(int); int on(int,int,int); int then(int,int,int); int fond(int,int); int home(int);
        int falls(int,int); int best(int,int); int round(int,int); int kind(int,int); int enough(int,int);
        int please(int,int,int,int); int richest(int); int feed(int,int); int wipe(); int shop();
        int sheet(int,int,int); long write(int,int,long); int copy(int,int,int,int,int); int lays(int);
        int book(int,int); int read(int,int,int); int image(); int undo(); int tear(); int count(int);
        int status(int);""";

    private static int wrong = 0;

    private static void must(boolean holds, String what) {
        if (!holds) {
            wrong++;
            System.out.println("it must be that " + what);
        }
    }

    private static String told(Method m) {
        return m.getReturnType().getName() + " " + m.getName() + "("
            + Arrays.stream(m.getParameterTypes()).map(Class::getName).collect(Collectors.joining(",")) + ")";
    }

    private static void allAreThere() {
        Set<String> want = new TreeSet<>(Arrays.asList(FACE.strip().split(";\\s*")));
        Set<String> there = new TreeSet<>();
        Set<String> names = new TreeSet<>();
        for (Method m : BeardHire.class.getDeclaredMethods()) {
            if (Modifier.isPublic(m.getModifiers())) {
                there.add(told(m));
                names.add(m.getName());
                must(!Modifier.isStatic(m.getModifiers()), m.getName() + " is not static");
                must(m.getExceptionTypes().length == 0, m.getName() + " declares no exception");
            }
        }
        must(want.size() == 41, "the test names all methods");
        must(there.equals(want), "the public methods are " + want + ", but they are " + there);
        for (Method m : BeardHire.class.getDeclaredMethods()) {
            if (!Modifier.isPublic(m.getModifiers())) {
                must(Modifier.isPrivate(m.getModifiers()), m.getName() + " is private");
                must(!names.contains(m.getName()), m.getName() + " has a name of its own");
            }
        }
    }

    private static void nothingElseIsSeen() {
        must(Modifier.isPublic(BeardHire.class.getModifiers()), "the class is public");
        must(Modifier.isFinal(BeardHire.class.getModifiers()), "the class is final");
        must(BeardHire.class.getPackageName().isEmpty(), "it has no package");
        must(BeardHire.class.getDeclaredConstructors().length == 1, "there is one constructor");
        must(BeardHire.class.getConstructors().length == 1, "it is public");
        for (Field f : BeardHire.class.getDeclaredFields()) {
            must(Modifier.isPrivate(f.getModifiers()), f.getName() + " is private");
        }
        must(BeardHire.class.getDeclaredClasses().length <= 11, "there are at most twelve classes");
        for (Class<?> inside : BeardHire.class.getDeclaredClasses()) {
            must(Modifier.isStatic(inside.getModifiers()), inside.getName() + " is static");
            must(!Modifier.isPublic(inside.getModifiers()), inside.getName() + " is not public");
            must(!Modifier.isProtected(inside.getModifiers()), inside.getName() + " is not protected");
            nothingSharedChanges(inside);
        }
        nothingSharedChanges(BeardHire.class);
    }

    private static void nothingSharedChanges(Class<?> c) {
        int own = 0;
        for (Field f : c.getDeclaredFields()) {
            if (Modifier.isStatic(f.getModifiers())) {
                must(Modifier.isFinal(f.getModifiers()), f.getName() + " is final");
            } else {
                own++;
            }
        }
        must(own <= 20, c.getName() + " has at most twenty fields");
    }

    public static void main(String[] args) {
        allAreThere();
        nothingElseIsSeen();
        System.out.println(wrong == 0 ? "the face is the document's" : wrong + " things are wrong");
        if (wrong != 0) {
            System.exit(1);
        }
    }
}
