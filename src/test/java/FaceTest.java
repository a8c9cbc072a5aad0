import java.io.IOException;
import java.lang.reflect.Constructor;
import java.lang.reflect.Field;
import java.lang.reflect.Method;
import java.lang.reflect.Modifier;
import java.nio.file.Files;
import java.nio.file.Path;
import java.util.Arrays;
import java.util.Set;
import java.util.TreeSet;

/** The public face of the document, and those rules of the language that can be seen from outside. */
public final class FaceTest {
    private static final Path SOURCE = Path.of("src/main/java/ControlledStation.java");

    public static void main(String[] args) throws IOException {
        Bench b = new Bench("the face");
        constants(b);
        methods(b);
        onlyTheFaceIsSeen(b);
        innerClasses(b);
        words(b, Files.readString(SOURCE));
        Bench.finish();
    }

    private static void constants(Bench b) {
        b.due("NONE", ControlledStation.NONE == -1);
        b.due("BAD", ControlledStation.BAD == -1);
        b.due("STATE", ControlledStation.STATE == -2);
        b.due("FULL", ControlledStation.FULL == -3);
    }

    private static void methods(Bench b) {
        Set<String> want = new TreeSet<>(Set.of("set(int,int)", "point(int,int,int,boolean)",
            "command(int,int,int,boolean)", "change(int,int,int)", "open()", "close()", "come(int,long)",
            "tick(int)", "out(int)"));
        want.addAll(Set.of("take(int)", "told(int,int)", "ordered(int,int)", "clock(int)", "count(int)"));
        Set<String> names = new TreeSet<>();
        Set<String> got = new TreeSet<>();
        for (Method method : ControlledStation.class.getDeclaredMethods()) {
            if (!Modifier.isPrivate(method.getModifiers())) {
                String types = String.join(",",
                    Arrays.stream(method.getParameterTypes()).map(Class::getName).toArray(String[]::new));
                got.add(method.getName() + "(" + types + ")");
                names.add(method.getName());
                b.due(method + " answers an int", method.getReturnType() == int.class);
            }
        }
        b.due("the methods " + got, got.equals(want));
        for (Method method : ControlledStation.class.getDeclaredMethods()) {
            boolean isPrivate = Modifier.isPrivate(method.getModifiers());
            b.due(method + " has a name of its own", !isPrivate || !names.contains(method.getName()));
        }
    }

    private static void onlyTheFaceIsSeen(Bench b) {
        Set<String> constants = Set.of("NONE", "BAD", "STATE", "FULL");
        for (Field field : ControlledStation.class.getDeclaredFields()) {
            boolean isFace = constants.contains(field.getName());
            b.due(field + " is private", isFace || Modifier.isPrivate(field.getModifiers()));
            int both = Modifier.STATIC | Modifier.FINAL;
            boolean isConstant = (field.getModifiers() & both) == both;
            b.due(field + " is no static state", isConstant || !Modifier.isStatic(field.getModifiers()));
        }
        Constructor<?>[] constructors = ControlledStation.class.getDeclaredConstructors();
        b.due("one constructor", constructors.length == 1 && constructors[0].getParameterCount() == 0
            && Modifier.isPublic(constructors[0].getModifiers()));
        int modifiers = ControlledStation.class.getModifiers();
        b.due("public and final", Modifier.isPublic(modifiers) && Modifier.isFinal(modifiers));
    }

    private static void innerClasses(Bench b) {
        Class<?>[] inner = ControlledStation.class.getDeclaredClasses();
        b.due("twelve classes at most", inner.length + 1 <= 12);
        for (Class<?> one : inner) {
            b.due(one + " is static", Modifier.isStatic(one.getModifiers()));
            b.due(one + " is private", Modifier.isPrivate(one.getModifiers()));
        }
    }

    private static void words(Bench b, String source) {
        String[] forbidden = {"throw", "throws", "try", "catch", "synchronized", "assert", "import", "package",
            "hashCode", "Exception", "lambda", "protected"};
        for (String word : forbidden) {
            b.due("no " + word, !source.matches("(?s).*\\b" + word + "\\b.*"));
        }
        b.due("no lambda and no method reference", !source.contains("->") && !source.contains("::"));
    }
}
