import java.lang.reflect.Constructor;
import java.lang.reflect.Field;
import java.lang.reflect.Method;
import java.lang.reflect.Modifier;
import java.util.Arrays;
import java.util.HashSet;
import java.util.Set;
import java.util.TreeSet;

/** The public face, and promise 1: a new object. */
public final class FaceTest {
    private static final String[] FACE = {
        "aperture(int,long,long):int throws IllegalArgumentException",
        "attribute(int,int):int throws IndexOutOfBoundsException",
        "clear():void",
        "corner(long,long):boolean throws IllegalStateException IllegalArgumentException",
        "flash(int,long,long,boolean):boolean throws IndexOutOfBoundsException IllegalStateException"
            + " IllegalArgumentException",
        "in(long,long):boolean",
        "line(int,long,long,long,long):boolean throws IndexOutOfBoundsException IllegalStateException"
            + " IllegalArgumentException",
        "macro(int,int,long):int throws IndexOutOfBoundsException IllegalStateException IllegalArgumentException",
        "object(int,int):int throws IndexOutOfBoundsException",
        "odd(int):int throws IndexOutOfBoundsException",
        "read():int",
        "region(boolean):boolean",
        "repeat(int,int,long,long):int throws IllegalArgumentException",
        "same(int):boolean throws IndexOutOfBoundsException",
        "unit(int):boolean",
        "write(int):int throws IndexOutOfBoundsException",
    };

    public static void main(String[] args) {
        Check.due("NONE", -1, ImageTexts.NONE);
        membersAreTheDocuments();
        innerClassesAreStaticAndNotPublic();
        newObjectIsEmpty();
        objectsDoNotShareTheirState();
        Check.close("FaceTest");
    }

    private static void membersAreTheDocuments() {
        Set<String> seen = new TreeSet<>();
        Set<String> names = new HashSet<>();
        for (Method m : ImageTexts.class.getDeclaredMethods()) {
            if (Modifier.isPublic(m.getModifiers())) {
                seen.add(signature(m));
                names.add(m.getName());
            }
        }
        Check.due("the public methods", new TreeSet<>(Arrays.asList(FACE)).toString(), seen.toString());
        for (Method m : ImageTexts.class.getDeclaredMethods()) {
            boolean fine = Modifier.isPublic(m.getModifiers())
                    || (Modifier.isPrivate(m.getModifiers()) && !names.contains(m.getName()));
            Check.due("whether a method may be: " + m.getName(), true, fine);
        }
        for (Field f : ImageTexts.class.getDeclaredFields()) {
            boolean isPublic = f.getName().equals("NONE");
            Check.due("the modifiers of " + f.getName(), true,
                    isPublic ? Modifier.isPublic(f.getModifiers()) : Modifier.isPrivate(f.getModifiers()));
            Check.due("whether a static field is final: " + f.getName(), true,
                    !Modifier.isStatic(f.getModifiers()) || Modifier.isFinal(f.getModifiers()));
        }
        Constructor<?>[] made = ImageTexts.class.getDeclaredConstructors();
        Check.due("constructors", 1, made.length);
        Check.due("the constructor's parameters", 0, made[0].getParameterCount());
        Check.due("a public constructor", true, Modifier.isPublic(made[0].getModifiers()));
        Check.due("a public class", true, Modifier.isPublic(ImageTexts.class.getModifiers()));
        Check.due("a final class", true, Modifier.isFinal(ImageTexts.class.getModifiers()));
    }

    private static String signature(Method m) {
        StringBuilder s = new StringBuilder(m.getName()).append('(');
        for (Class<?> c : m.getParameterTypes()) {
            s.append(s.charAt(s.length() - 1) == '(' ? "" : ",").append(c.getName());
        }
        s.append("):").append(m.getReturnType().getName());
        String gap = " throws ";
        for (Class<?> c : m.getExceptionTypes()) {
            s.append(gap).append(c.getSimpleName());
            gap = " ";
        }
        return s.toString();
    }

    private static void innerClassesAreStaticAndNotPublic() {
        Class<?>[] inner = ImageTexts.class.getDeclaredClasses();
        Check.due("whether there are at most twelve classes", true, inner.length < 12);
        for (Class<?> c : inner) {
            int m = c.getModifiers();
            Check.due("the modifiers of " + c.getName(), true,
                    Modifier.isStatic(m) && !Modifier.isPublic(m) && !Modifier.isProtected(m));
            Check.due("whether it has some twenty fields: " + c.getName(), true, c.getDeclaredFields().length <= 20);
        }
    }

    private static void newObjectIsEmpty() {
        ImageTexts x = new ImageTexts();
        Check.due("what is written", "F6*E*", Check.written(x));
        Check.due("in(0, 0)", false, x.in(0, 0));
        Check.throwsOutOfBounds("object(0, 0)", () -> x.object(0, 0));
        Check.throwsOutOfBounds("attribute(0, 0)", () -> x.attribute(0, 0));
        Check.throwsOutOfBounds("same(0)", () -> Check.number(x.same(0)));
        Check.throwsOutOfBounds("flash(10, 0, 0, true)", () -> Check.number(x.flash(10, 0, 0, true)));
        Check.throwsState("macro(0, 0, 0)", () -> x.macro(0, 0, 0));
        Check.throwsState("corner(0, 0)", () -> Check.number(x.corner(0, 0)));
        Check.due("region(false)", false, x.region(false));
        Check.due("repeat(1, 1, 0, 0)", 0, x.repeat(1, 1, 0, 0));
        Check.due("odd(2)", 0, x.odd(2));
        Check.due("read()", -1, x.read());
    }

    private static void objectsDoNotShareTheirState() {
        ImageTexts one = Check.image("F6*A10C1*D10*X0Y0D3*");
        ImageTexts two = new ImageTexts();
        Check.due("in(0, 0) of one", true, one.in(0, 0));
        Check.due("in(0, 0) of another", false, two.in(0, 0));
    }
}
