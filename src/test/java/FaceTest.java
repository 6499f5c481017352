import java.lang.reflect.Field;
import java.lang.reflect.Method;
import java.lang.reflect.Modifier;
import java.util.ArrayList;
import java.util.Arrays;
import java.util.List;
import java.util.TreeSet;

/** The public face, just as the document gives it, and promise 1. */
public final class FaceTest {
    private static final String[] FACE = {
        "append(int) IllegalArgumentException IllegalStateException",
        "clearText()",
        "errorPosition()",
        "load() IllegalStateException",
        "about(int) IllegalArgumentException",
        "slope(int,int) IndexOutOfBoundsException IllegalArgumentException",
        "gun(int,int) IndexOutOfBoundsException IllegalArgumentException",
        "account(int) IllegalArgumentException",
        "book(int,int) IllegalArgumentException",
        "wet(int) IllegalArgumentException",
        "pass(int) IllegalArgumentException",
        "set(int,int) IllegalArgumentException",
        "fill(int) IllegalArgumentException",
        "setWet(int,int) IllegalArgumentException",
        "setSlope(int,int,int) IndexOutOfBoundsException IllegalArgumentException",
        "addSlope(int,int,int) IllegalArgumentException IllegalStateException",
        "removeSlope(int) IndexOutOfBoundsException IllegalStateException",
        "addGun(int,int) IndexOutOfBoundsException IllegalArgumentException IllegalStateException",
        "bring(int,int) IndexOutOfBoundsException",
        "allow(int,boolean) IndexOutOfBoundsException",
        "undo() IllegalStateException",
        "whyNot(int) IndexOutOfBoundsException",
        "order(int) IllegalArgumentException",
        "ahead(int,int) IllegalArgumentException",
        "readyAfter(int) IndexOutOfBoundsException",
        "bestPlace(int,int) IllegalArgumentException",
        "missing(int) IllegalArgumentException",
        "coldest(int) IllegalArgumentException",
        "runScript(int,long) IllegalArgumentException",
        "simulate(long,int) IllegalArgumentException",
        "save(int) IndexOutOfBoundsException",
        "restore(int) IndexOutOfBoundsException IllegalStateException",
    };

    public static void main(String[] args) {
        Check c = new Check();
        face(c);
        newObject(c);
        c.end("FaceTest");
    }

    private static void face(Check c) {
        List<String> names = new ArrayList<>();
        for (Method m : SnowGuns.class.getDeclaredMethods()) {
            if (!Modifier.isPrivate(m.getModifiers())) {
                names.add(told(m));
                c.is(m + " is public, not static, answers an int", m.getReturnType() == int.class
                    && m.getModifiers() == Modifier.PUBLIC ? 1 : 0, 1);
            }
        }
        c.same("the methods", new TreeSet<>(names).toString(), new TreeSet<>(Arrays.asList(FACE)).toString());
        List<String> fields = new ArrayList<>();
        for (Field f : SnowGuns.class.getDeclaredFields()) {
            if (!Modifier.isPrivate(f.getModifiers())) {
                fields.add(f.toString());
            }
        }
        c.same("the constants", fields.toString(), "[public static final int SnowGuns.NONE]");
        c.is("NONE", SnowGuns.NONE, -9999);
        c.same("the constructors", Arrays.toString(SnowGuns.class.getDeclaredConstructors()), "[public SnowGuns()]");
        c.is("public and final", SnowGuns.class.getModifiers(), Modifier.PUBLIC | Modifier.FINAL);
        for (Class<?> inside : SnowGuns.class.getDeclaredClasses()) {
            int m = inside.getModifiers();
            c.is(inside + " is static and not public", Modifier.isStatic(m)
                && !Modifier.isPublic(m) && !Modifier.isProtected(m) ? 1 : 0, 1);
        }
    }

    private static String told(Method m) {
        List<String> types = new ArrayList<>();
        for (Class<?> type : m.getParameterTypes()) {
            types.add(type.getName());
        }
        StringBuilder all = new StringBuilder(m.getName() + "(" + String.join(",", types) + ")");
        for (Class<?> thrown : m.getExceptionTypes()) {
            all.append(' ').append(thrown.getSimpleName());
        }
        return all.toString();
    }

    private static void newObject(Check c) {
        SnowGuns x = new SnowGuns();
        StringBuilder want = new StringBuilder("about 20 500 2 10 1 1 24 500 0 0 0 0 -4 1");
        want.append(" | slope 4 5 10 0 0 0 1 | gun 0 1 1 0 0 0 | accounts 500 0 0 0 0 0 | book");
        for (int j = 0; j < 21; j++) {
            want.append(" -9999@-9999");
        }
        want.append(" | wets");
        for (int h = 0; h < 24; h++) {
            want.append(" -4");
        }
        want.append(" | text 0");
        c.same("a new object", Check.seen(x), want.toString());
        c.is("its text", x.clearText(), 0);
        c.wrongState("nothing to undo", x, x::undo);
        c.wrongState("nothing saved in 0", x, () -> x.restore(0));
        c.wrongState("nothing saved in 1", x, () -> x.restore(1));
        SnowGuns y = new SnowGuns();
        x.pass(5);
        c.is("objects share nothing", y.about(8), 0);
    }
}
