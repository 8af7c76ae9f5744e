import java.lang.reflect.Constructor;
import java.lang.reflect.Field;
import java.lang.reflect.Method;
import java.lang.reflect.Modifier;
import java.util.Arrays;
import java.util.Set;
import java.util.TreeSet;
import java.util.stream.Collectors;

/** The public face is the document's and no more, and no private method bears a public one's name. */
public final class FaceTest {
    private static final String[] METHODS = {
        "int feed(int,int,int,int,int)",
        "int shed(int) IllegalArgumentException",
        "int fault()",
        "int count(int) NoSuchElementException",
        "int hole(int,int) NoSuchElementException",
        "int leak(boolean)",
        "int minutes(int,boolean)",
        "int pump()",
        "int undo()",
        "int flat(boolean)",
        "int dip(int,int)",
        "int listen(int,int)",
        "long weight(int) NoSuchElementException",
        "int odds(int) NoSuchElementException",
        "int next(int) NoSuchElementException",
        "int plan(int) IllegalArgumentException",
        "int planned(int) NoSuchElementException",
        "int seek(int,boolean,int) NoSuchElementException",
        "int air(int) IllegalArgumentException",
        "int line(int) IllegalArgumentException",
        "int holds(int,int,int,int) IllegalArgumentException,NoSuchElementException",
        "int glue(int,int,int,int) IllegalArgumentException,NoSuchElementException",
        "boolean patch(int,int,int,int,int) IllegalArgumentException,NoSuchElementException",
        "int feel(int) NoSuchElementException",
        "int fits(int) NoSuchElementException",
        "int cause(int,int) NoSuchElementException",
        "int ride(int,int) IllegalArgumentException,NoSuchElementException",
        "int best(int,int,int,int,int) IllegalArgumentException,NoSuchElementException",
        "int dark(int) NoSuchElementException",
        "int mean(int) NoSuchElementException",
        "int tacks(int) NoSuchElementException",
        "int cell(int) NoSuchElementException",
        "int thorn(int)",
        "int quarter()",
        "int sweep(int,boolean,int,int) IllegalArgumentException,NoSuchElementException",
        "int seeks(int,int,boolean,int) IllegalArgumentException,NoSuchElementException",
        "int enough(int) IllegalArgumentException",
        "int ofInch(int) NoSuchElementException",
        "int ofSide(int) NoSuchElementException",
        "int flatIf(int,boolean) IllegalArgumentException",
        "int which(int,boolean,int) NoSuchElementException",
        "int rides(int) IllegalArgumentException",
        "void image()",
        "boolean restore()"
    };

    private FaceTest() {
    }

    public static void main(String[] args) {
        Class<?> face = BucketTube.class;
        Due.due("the class is public and final", 1,
                Modifier.isPublic(face.getModifiers()) && Modifier.isFinal(face.getModifiers()) ? 1 : 0);
        Set<String> want = new TreeSet<>(Arrays.asList(METHODS));
        Set<String> names = new TreeSet<>();
        for (Method m : face.getDeclaredMethods()) {
            if (!Modifier.isPrivate(m.getModifiers())) {
                names.add(m.getName());
                Due.due("in the document: " + told(m), 1, want.remove(told(m)) ? 1 : 0);
                Due.due("public, of an object: " + told(m), 1,
                        Modifier.isPublic(m.getModifiers()) && !Modifier.isStatic(m.getModifiers()) ? 1 : 0);
            }
        }
        Due.due("missing: " + want, 0, want.size());
        noPrivateNamesake(face, names);
        for (Class<?> inside : face.getDeclaredClasses()) {
            noPrivateNamesake(inside, names);
            Due.due("static: " + inside, 1, Modifier.isStatic(inside.getModifiers()) ? 1 : 0);
        }
        Due.due("at most twelve classes", 1, face.getDeclaredClasses().length < 12 ? 1 : 0);
        for (Field f : face.getDeclaredFields()) {
            boolean fine = f.getName().equals("NONE") ? Modifier.isPublic(f.getModifiers()) : Modifier.isPrivate(f.getModifiers());
            Due.due("field " + f, 1, fine ? 1 : 0);
        }
        Constructor<?>[] made = face.getDeclaredConstructors();
        Due.due("one constructor", 1, made.length);
        Due.due("it is public and takes nothing", 1,
                Modifier.isPublic(made[0].getModifiers()) && made[0].getParameterCount() == 0 ? 1 : 0);
        Due.end();
    }

    private static void noPrivateNamesake(Class<?> of, Set<String> names) {
        for (Method m : of.getDeclaredMethods()) {
            if (of != BucketTube.class || Modifier.isPrivate(m.getModifiers())) {
                Due.due("named as a public one: " + m, 0, names.contains(m.getName()) ? 1 : 0);
            }
        }
    }

    private static String told(Method m) {
        String types = Arrays.stream(m.getParameterTypes()).map(Class::getSimpleName).collect(Collectors.joining(","));
        String thrown = Arrays.stream(m.getExceptionTypes()).map(Class::getSimpleName).sorted().collect(Collectors.joining(","));
        return (m.getReturnType().getSimpleName() + " " + m.getName() + "(" + types + ") " + thrown).trim();
    }
}
