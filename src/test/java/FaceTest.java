import java.io.IOException;
import java.lang.reflect.Constructor;
import java.lang.reflect.Field;
import java.lang.reflect.Member;
import java.lang.reflect.Method;
import java.lang.reflect.Modifier;
import java.nio.file.Files;
import java.nio.file.Path;
import java.util.ArrayList;
import java.util.Arrays;
import java.util.List;
import java.util.Set;
import java.util.TreeSet;
import java.util.regex.Matcher;
import java.util.regex.Pattern;

/**
 * The document's public face, member by member, and those rules of LANGUAGE.md that can be seen in
 * the compiled class or in the words of its source. It is started in the project's directory.
 */
public final class FaceTest {
    private static final Path SOURCE = Path.of("src/main/java/ZScreens.java");
    private static final String[] FACE = {
        "OUTSIDE = -1", "STATE = -2", "ZScreens(int, int, int)", "split(int)", "choose(int)", "cursor(int, int)",
        "sign(int)", "erase(int)", "eraseLine()", "style(int)", "colour(int, int)", "font(int)", "buffer(boolean)",
        "name(int)", "status(int, int, int)", "read()", "transcript(boolean)", "written(int)", "size(int, int)",
        "cell(int, int, int)", "told(int)"};
    private static final Set<String> STATIC_TYPES = Set.of("int", "long", "boolean", "char", "String", "int[]",
        "long[]", "char[]", "byte[]");
    private static final Set<String> REFUSED_WORDS = Set.of("throw", "throws", "try", "catch", "finally",
        "synchronized", "assert", "protected", "package", "volatile", "native", "transient", "var", "Object");
    private static final Set<String> LIBRARY = Set.of("Math", "Arrays", "System", "String", "StringBuilder",
        "Integer", "Long", "List", "ArrayList");

    private FaceTest() {
    }

    public static void main(String[] args) throws IOException {
        theFace();
        nothingElseIsSeen();
        classesInside();
        noPrivateMethodHasAPublicName();
        staticFieldsAreConstants();
        numbersOfMembers();
        String text = Files.readString(SOURCE).replaceAll("(?s)/\\*.*?\\*/", " ").replaceAll("//[^\n]*", " ")
            .replaceAll("\"[^\"\n]*\"", "\"\"");
        wordsOfTheSource(text);
        librariesOfTheSource(text);
        Checks.finish();
    }

    private static List<Class<?>> classes() {
        List<Class<?>> all = new ArrayList<>();
        all.add(ZScreens.class);
        all.addAll(Arrays.asList(ZScreens.class.getDeclaredClasses()));
        return all;
    }

    private static String parameters(Class<?>[] types) {
        List<String> names = new ArrayList<>();
        for (Class<?> type : types) {
            names.add(type.getSimpleName());
        }
        return "(" + String.join(", ", names) + ")";
    }

    private static boolean isSeen(Member member) {
        return !Modifier.isPrivate(member.getModifiers()) && !member.isSynthetic();
    }

    private static void theFace() {
        Checks.about("The public face");
        int modifiers = ZScreens.class.getModifiers();
        Checks.due("public", Modifier.isPublic(modifiers) ? 1 : 0, 1);
        Checks.due("final", Modifier.isFinal(modifiers) ? 1 : 0, 1);
        Checks.due("its superclass", ZScreens.class.getSuperclass().getName(), "java.lang.Object");
        Checks.due("its interfaces", ZScreens.class.getInterfaces().length, 0);
        Set<String> face = new TreeSet<>();
        for (Field field : ZScreens.class.getFields()) {
            face.add(field.getName() + " = " + (field.getName().equals("OUTSIDE") ? ZScreens.OUTSIDE : ZScreens.STATE));
            Checks.due(field.getName() + "'s type", field.getType().getName(), "int");
            Checks.due(field.getName(), field.getModifiers(), Modifier.PUBLIC | Modifier.STATIC | Modifier.FINAL);
        }
        for (Constructor<?> made : ZScreens.class.getConstructors()) {
            face.add("ZScreens" + parameters(made.getParameterTypes()));
        }
        for (Method method : ZScreens.class.getDeclaredMethods()) {
            if (Modifier.isPublic(method.getModifiers())) {
                face.add(method.getName() + parameters(method.getParameterTypes()));
                Checks.due(method.getName() + "'s answer", method.getReturnType().getName(), "int");
                Checks.due(method.getName() + " is of the object", method.getModifiers(), Modifier.PUBLIC);
            }
        }
        Checks.due("the face", String.join("\n", face), String.join("\n", new TreeSet<>(Arrays.asList(FACE))));
    }

    private static void nothingElseIsSeen() {
        Checks.about("LANGUAGE.md, rule 1: no other public, protected or package-visible member");
        int seen = 0;
        for (Field field : ZScreens.class.getDeclaredFields()) {
            seen += isSeen(field) ? 1 : 0;
        }
        for (Constructor<?> made : ZScreens.class.getDeclaredConstructors()) {
            seen += isSeen(made) ? 1 : 0;
        }
        for (Method method : ZScreens.class.getDeclaredMethods()) {
            seen += isSeen(method) ? 1 : 0;
        }
        Checks.due("members that are seen", seen, FACE.length);
    }

    private static void classesInside() {
        Checks.about("LANGUAGE.md, rules 1 and 2: classes inside");
        Checks.due("twelve at most", classes().size() <= 12 ? 1 : 0, 1);
        for (Class<?> inside : ZScreens.class.getDeclaredClasses()) {
            int modifiers = inside.getModifiers();
            Checks.due(inside.getName() + " is static", Modifier.isStatic(modifiers) ? 1 : 0, 1);
            Checks.due(inside.getName() + " is public or protected",
                modifiers & (Modifier.PUBLIC | Modifier.PROTECTED), 0);
            Checks.due(inside.getName() + " has classes", inside.getDeclaredClasses().length, 0);
        }
    }

    private static void noPrivateMethodHasAPublicName() {
        Checks.about("LANGUAGE.md, rule 1: No private method bears the name of a public one");
        Set<String> names = new TreeSet<>();
        for (Method method : ZScreens.class.getDeclaredMethods()) {
            if (Modifier.isPublic(method.getModifiers())) {
                names.add(method.getName());
            }
        }
        for (Class<?> owner : classes()) {
            for (Method method : owner.getDeclaredMethods()) {
                if (!Modifier.isPublic(method.getModifiers())) {
                    Checks.due(method.toString(), names.contains(method.getName()) ? 1 : 0, 0);
                }
            }
        }
    }

    private static void staticFieldsAreConstants() {
        Checks.about("LANGUAGE.md, rule 5: Static fields are final");
        for (Class<?> owner : classes()) {
            for (Field field : owner.getDeclaredFields()) {
                if (Modifier.isStatic(field.getModifiers())) {
                    Checks.due(field + " is final", Modifier.isFinal(field.getModifiers()) ? 1 : 0, 1);
                    Checks.due(field + " is of a type that may be",
                        STATIC_TYPES.contains(field.getType().getSimpleName()) ? 1 : 0, 1);
                }
            }
        }
    }

    private static void numbersOfMembers() {
        Checks.about("LANGUAGE.md, rule 11: seven parameters at most, some twenty fields");
        for (Class<?> owner : classes()) {
            int fields = 0;
            for (Field field : owner.getDeclaredFields()) {
                fields += Modifier.isStatic(field.getModifiers()) ? 0 : 1;
            }
            Checks.due(owner.getName() + " has twenty fields at most", fields <= 20 ? 1 : 0, 1);
            for (Method method : owner.getDeclaredMethods()) {
                Checks.due(method.toString(), method.getParameterCount() <= 7 ? 1 : 0, 1);
            }
        }
    }

    private static void wordsOfTheSource(String text) {
        Checks.about("LANGUAGE.md, rules 2, 6 and 10: what may not stand in the source");
        Matcher words = Pattern.compile("[A-Za-z_][A-Za-z_0-9]*").matcher(text);
        while (words.find()) {
            Checks.due(words.group(), REFUSED_WORDS.contains(words.group()) ? 1 : 0, 0);
        }
        Checks.due("->", text.indexOf("->"), -1);
        Checks.due("::", text.indexOf("::"), -1);
        Checks.due("@", text.indexOf('@'), -1);
        Checks.due("static {", Pattern.compile("static\\s*\\{").matcher(text).find() ? 1 : 0, 0);
        Checks.due("a text joined by +", Pattern.compile("\"\\s*\\+|\\+\\s*\"").matcher(text).find() ? 1 : 0, 0);
    }

    private static void librariesOfTheSource(String text) {
        Checks.about("LANGUAGE.md, rule 4: The library: only what stands here");
        Matcher imports = Pattern.compile("import\\s+([^;]*);").matcher(text);
        while (imports.find()) {
            Checks.due(imports.group(1), imports.group(1).matches("java\\.util\\.(Arrays|ArrayList|List)") ? 1 : 0, 1);
        }
        Set<String> own = new TreeSet<>();
        for (Class<?> owner : classes()) {
            own.add(owner.getSimpleName());
        }
        Matcher names = Pattern.compile("\\b[A-Z]\\w*[a-z]\\w*\\b").matcher(text);
        while (names.find()) {
            Checks.due(names.group(), own.contains(names.group()) || LIBRARY.contains(names.group()) ? 1 : 0, 1);
        }
        Matcher calls = Pattern.compile("\\b(System|Arrays|Math|Integer|Long)\\.(\\w+)").matcher(text);
        while (calls.find()) {
            String call = calls.group();
            boolean mayBe = call.equals("System.arraycopy") || call.matches("Arrays\\.(fill|copyOf|copyOfRange)")
                || (call.matches("(Math|Integer|Long)\\..*") && !call.endsWith("Exact"));
            Checks.due(call, mayBe ? 1 : 0, 1);
        }
    }
}
