import java.lang.reflect.Constructor;
import java.lang.reflect.Field;
import java.lang.reflect.Method;
import java.lang.reflect.Modifier;
import java.util.Set;
import java.util.TreeSet;

/** The public face: each member of the document, and no other that is not private. */
public final class FaceTest {
    private static final String[] FACE = {
        "int fill(int,int,int,int,int) ARG", "int copy(int,int,int,int,int,int) ARG",
        "int colour(int,int) ARG", "int colours(int) ARG", "int runs(int) ARG",
        "int way(int,int) ARG STATE", "int join(int) ARG", "int ask(int,int) ARG STATE",
        "int answer(int) ARG STATE", "int shown(int,int,int) ARG STATE", "int unlike(int) ARG STATE",
        "int dirty(int) ARG STATE", "int dirtyAt(int,int) ARG STATE INDEX",
        "int cached(int) ARG STATE", "boolean isAlike(int) ARG STATE", "int written(int) ARG",
        "int units()",
    };

    public static void main(String[] args) {
        Class<?> face = DirtyTiles.class;
        Check.same("class", "public final", Modifier.toString(face.getModifiers()));
        Set<String> want = new TreeSet<>();
        Set<String> names = new TreeSet<>();
        for (String line : FACE) {
            want.add(line);
            names.add(line.substring(line.indexOf(' ') + 1, line.indexOf('(')));
        }
        Set<String> got = new TreeSet<>();
        for (Method method : face.getDeclaredMethods()) {
            if (!Modifier.isPrivate(method.getModifiers())) {
                Check.same(method.getName(), "public", Modifier.toString(method.getModifiers()));
                got.add(line(method));
            } else {
                notOfTheFace(method, names);
            }
        }
        Check.same("methods", want.toString(), got.toString());
        Constructor<?>[] constructors = face.getDeclaredConstructors();
        Check.same("constructors", "1", "" + constructors.length);
        Check.same("constructor", "public DirtyTiles()", constructors[0].toString());
        for (Field field : face.getDeclaredFields()) {
            Check.same(field.getName(), "true", "" + Modifier.isPrivate(field.getModifiers()));
        }
        for (Class<?> inside : face.getDeclaredClasses()) {
            int modifiers = inside.getModifiers();
            Check.same(inside.getName(), "true", ""
                    + (Modifier.isStatic(modifiers) && !Modifier.isPublic(modifiers)));
            for (Method method : inside.getDeclaredMethods()) {
                notOfTheFace(method, names);
            }
        }
        Check.end();
    }

    private static void notOfTheFace(Method method, Set<String> names) {
        Check.same("name of the face in a method inside: " + method, "false",
                "" + names.contains(method.getName()));
    }

    private static String line(Method method) {
        StringBuilder line = new StringBuilder(method.getReturnType() + " " + method.getName() + "(");
        for (Class<?> parameter : method.getParameterTypes()) {
            line.append(line.charAt(line.length() - 1) == '(' ? "" : ",").append(parameter);
        }
        line.append(")");
        for (Class<?> thrown : method.getExceptionTypes()) {
            if (thrown == IllegalArgumentException.class) {
                line.append(" ARG");
            } else if (thrown == IllegalStateException.class) {
                line.append(" STATE");
            } else if (thrown == IndexOutOfBoundsException.class) {
                line.append(" INDEX");
            } else {
                line.append(" ").append(thrown);
            }
        }
        return line.toString();
    }
}
