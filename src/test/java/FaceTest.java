import java.io.IOException;
import java.lang.reflect.Constructor;
import java.lang.reflect.Field;
import java.lang.reflect.Method;
import java.lang.reflect.Modifier;
import java.nio.file.Files;
import java.nio.file.Path;
import java.util.Arrays;
import java.util.Set;
import java.util.StringJoiner;
import java.util.TreeSet;
import java.util.stream.Collectors;

/** "The public face" of the document, line by line, and rule 1 of LANGUAGE.md: the class has that face and no other. */
final class FaceTest {
    public static void main(String[] args) throws IOException, IllegalAccessException {
        Set<String> told = toldFace();
        Set<String> built = builtFace();
        Check.same("lines of the document's face", told.size(), 62);
        for (String line : told) {
            if (!built.contains(line)) {
                Check.fault("the class lacks: " + line);
            }
        }
        for (String line : built) {
            if (!told.contains(line)) {
                Check.fault("the document does not have: " + line);
            }
        }
        onlyTheFaceCanBeSeen();
        Check.end();
    }

    /** The lines of the document's code, without the names of arguments. */
    private static Set<String> toldFace() throws IOException {
        Set<String> lines = new TreeSet<>();
        String page = Files.readString(Path.of("../shared/DOC.md"));
        String code = page.substring(page.indexOf("```java\n") + 8);
        for (String line : code.substring(0, code.indexOf("```")).split("\n")) {
            String bare = line.trim();
            if (bare.endsWith(";")) {
                lines.add(bare.substring(0, bare.length() - 1).replaceAll("(int|long|boolean) \\w+(?=[,)])", "$1"));
            }
        }
        return lines;
    }

    private static Set<String> builtFace() throws IllegalAccessException {
        Set<String> lines = new TreeSet<>();
        for (Field f : PinBarrel.class.getDeclaredFields()) {
            if (Modifier.isPublic(f.getModifiers())) {
                lines.add(Modifier.toString(f.getModifiers()) + " " + f.getType().getSimpleName() + " " + f.getName()
                        + " = " + f.get(null));
            }
        }
        for (Constructor<?> c : PinBarrel.class.getDeclaredConstructors()) {
            lines.add("public PinBarrel" + types("(", c.getParameterTypes(), ")") + types(" throws ",
                    c.getExceptionTypes(), ""));
        }
        for (Method m : PinBarrel.class.getDeclaredMethods()) {
            if (!Modifier.isPrivate(m.getModifiers())) {
                lines.add(Modifier.toString(m.getModifiers()) + " " + m.getReturnType().getSimpleName() + " "
                        + m.getName() + types("(", m.getParameterTypes(), ")")
                        + (m.getExceptionTypes().length == 0 ? "" : types(" throws ", m.getExceptionTypes(), "")));
            }
        }
        return lines;
    }

    private static String types(String before, Class<?>[] types, String behind) {
        StringJoiner list = new StringJoiner(", ", before, behind).setEmptyValue(before.equals("(") ? "()" : "");
        for (Class<?> type : types) {
            list.add(type.getSimpleName());
        }
        return list.toString();
    }

    private static void onlyTheFaceCanBeSeen() {
        Class<?> of = PinBarrel.class;
        Check.same("modifiers of the class", Modifier.toString(of.getModifiers()), "public final");
        Check.same("package of the class", of.getPackageName(), "");
        Check.same("class above it", of.getSuperclass().getName(), "java.lang.Object");
        Check.same("interfaces of it", of.getInterfaces().length, 0);
        for (Field f : of.getDeclaredFields()) {
            Check.same(f + " is public or private", hidden(f.getModifiers()) || Modifier.isPublic(f.getModifiers()), true);
            Check.same(f + " is final or no static", !Modifier.isStatic(f.getModifiers())
                    || Modifier.isFinal(f.getModifiers()), true);
        }
        Set<String> names = Arrays.stream(of.getMethods()).map(Method::getName).collect(Collectors.toSet());
        for (Method m : of.getDeclaredMethods()) {
            boolean hidden = hidden(m.getModifiers());
            Check.same(m + " is public or private", hidden || Modifier.isPublic(m.getModifiers()), true);
            Check.same(m + " bears the name of a public one", hidden && names.contains(m.getName()), false);
        }
        for (Class<?> inside : of.getDeclaredClasses()) {
            int modifiers = inside.getModifiers();
            Check.same(inside + " is static", Modifier.isStatic(modifiers), true);
            Check.same(inside + " can be seen", Modifier.isPublic(modifiers) || Modifier.isProtected(modifiers), false);
        }
    }

    private static boolean hidden(int modifiers) {
        return Modifier.isPrivate(modifiers);
    }
}
