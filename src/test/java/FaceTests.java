import java.io.IOException;
import java.lang.reflect.Constructor;
import java.lang.reflect.Field;
import java.lang.reflect.Method;
import java.lang.reflect.Modifier;
import java.nio.file.Files;
import java.nio.file.Path;
import java.util.ArrayList;
import java.util.Arrays;
import java.util.List;
import java.util.Set;
import java.util.TreeSet;
import java.util.regex.Matcher;
import java.util.regex.Pattern;

/** The document's public face and no more, and the rules of LANGUAGE.md that can be seen from outside. */
public final class FaceTests {
    private static final Path SOURCE = Path.of("src/main/java/DelayClusters.java");
    private static final Set<String> CALLS = Set.of(
        "write 1", "wipe 0", "fault 0", "lay 0", "link 3", "unlink 2", "delay 3", "drawn 1", "draws 1", "undo 0",
        "place 2", "far 2", "front 2", "linkOf 3", "cluster 2", "beside 3", "tried 2", "best 3", "chance 4",
        "rise 1", "count 1");
    private static final Set<String> CONSTANTS = Set.of("BAD -1", "NO -2", "FULL -3", "NONE -4");
    private static final List<String> IMPORTS = List.of(
        "java.util.Arrays", "java.util.ArrayList", "java.util.List", "java.util.Iterator");

    private static int wrong = 0;

    private static void holds(String what, boolean so) {
        if (!so) {
            wrong++;
            System.out.println("not so: " + what);
        }
    }

    private static void same(String what, Set<String> got, Set<String> want) {
        Set<String> sorted = new TreeSet<>(want);
        holds(what + " are " + sorted + ", not " + got, got.equals(sorted));
    }

    // ---- the public face

    private static void theClassIsPublicAndFinal() {
        int modifiers = DelayClusters.class.getModifiers();
        holds("the class is public and final", Modifier.isPublic(modifiers) && Modifier.isFinal(modifiers));
        holds("it has no package", DelayClusters.class.getPackageName().isEmpty());
        holds("it is made of nothing else", DelayClusters.class.getSuperclass() == Object.class
            && DelayClusters.class.getInterfaces().length == 0);
    }

    private static void theConstructorIsOne() {
        Constructor<?>[] all = DelayClusters.class.getDeclaredConstructors();
        holds("there is one constructor, public and without numbers", all.length == 1
            && Modifier.isPublic(all[0].getModifiers()) && all[0].getParameterCount() == 0);
    }

    private static void theMethodsAreTheCalls() {
        Set<String> seen = new TreeSet<>();
        for (Method method : DelayClusters.class.getDeclaredMethods()) {
            if (!Modifier.isPrivate(method.getModifiers()) && !method.isSynthetic()) {
                seen.add(method.getName() + " " + method.getParameterCount());
                boolean allInts = Arrays.stream(method.getParameterTypes()).allMatch(type -> type == int.class);
                holds(method + " is public, of an object, and of ints", Modifier.isPublic(method.getModifiers())
                    && !Modifier.isStatic(method.getModifiers()) && method.getReturnType() == int.class && allInts);
            }
        }
        same("methods that can be seen", seen, CALLS);
    }

    private static void theFieldsAreTheConstants() throws IllegalAccessException {
        Set<String> seen = new TreeSet<>();
        for (Field field : DelayClusters.class.getDeclaredFields()) {
            int modifiers = field.getModifiers();
            if (!Modifier.isPrivate(modifiers) && !field.isSynthetic()) {
                boolean constant = Modifier.isPublic(modifiers) && Modifier.isStatic(modifiers)
                    && Modifier.isFinal(modifiers) && field.getType() == int.class;
                holds(field + " is a constant", constant);
                seen.add(field.getName() + " " + (constant ? field.getInt(null) : "?"));
            }
        }
        same("fields that can be seen", seen, CONSTANTS);
    }

    // ---- LANGUAGE.md, by the compiled class

    private static List<Class<?>> allClasses() {
        List<Class<?>> all = new ArrayList<>(List.of(DelayClusters.class));
        for (int k = 0; k < all.size(); k++) {
            all.addAll(Arrays.asList(all.get(k).getDeclaredClasses()));
        }
        return all;
    }

    private static void classesInsideAreStaticAndFew() {
        List<Class<?>> all = allClasses();
        holds("rule 11: twelve classes at most", all.size() <= 12);
        for (Class<?> inside : all.subList(1, all.size())) {
            int modifiers = inside.getModifiers();
            holds("rules 1, 2: " + inside + " is static, neither public nor protected", Modifier.isStatic(modifiers)
                && !Modifier.isPublic(modifiers) && !Modifier.isProtected(modifiers));
        }
    }

    private static void fieldsAreFewAndStaticOnesFinal() {
        for (Class<?> one : allClasses()) {
            int own = 0;
            for (Field field : one.getDeclaredFields()) {
                boolean isStatic = Modifier.isStatic(field.getModifiers());
                own += isStatic ? 0 : 1;
                holds("rule 5: " + field + " is final", !isStatic || Modifier.isFinal(field.getModifiers()));
            }
            holds("rule 11: " + one + " has twenty fields at most", own <= 20);
        }
    }

    private static void methodsHaveNamesOfTheirOwn() {
        for (Class<?> one : allClasses()) {
            for (Method method : one.getDeclaredMethods()) {
                boolean ofFace = one == DelayClusters.class && Modifier.isPublic(method.getModifiers());
                boolean namedSo = CALLS.stream().anyMatch(call -> call.startsWith(method.getName() + " "));
                holds("rule 1: " + method + " is not named as a public one", ofFace || !namedSo);
                holds("rule 11: " + method + " takes seven numbers at most", method.getParameterCount() <= 7);
                holds("rule 2: " + method + " is no lambda", !method.isSynthetic());
            }
        }
    }

    // ---- LANGUAGE.md, by the text

    private static String withoutCommentsAndTexts(String source) {
        return source.replaceAll("(?s)/\\*.*?\\*/", "").replaceAll("\"[^\"\n]*\"|'[^'\n]'", "0")
            .replaceAll("//[^\n]*", "");
    }

    private static void hasNone(String rule, String source, String pattern) {
        Matcher found = Pattern.compile(pattern).matcher(source);
        if (found.find()) {
            holds(rule + ", but there is: " + found.group(), false);
        }
    }

    private static void theTextKeepsToTheRules() throws IOException {
        String raw = Files.readString(SOURCE);
        String source = withoutCommentsAndTexts(raw);
        hasNone("no package", source, "(?m)^package\\b.*");
        hasNone("rule 2: no method reference", source, "\\w+::\\w+");
        hasNone("rule 4: nothing that ends in Exact", source, "\\w+Exact\\b");
        hasNone("rule 5: no static initialiser", source, "\\bstatic\\s*\\{");
        hasNone("rule 6: none of these words", source, "\\b(throw|throws|try|catch|finally|synchronized|assert)\\b");
        hasNone("rule 6: no equals, hashCode or toString of its own", source,
            "\\b(boolean equals|int hashCode|String toString)\\b");
        hasNone("rule 13: no clock, chance, thread, file", source,
            "\\b(Random|Thread|File|Files|Path|System\\.(?!arraycopy\\b)\\w+|Math\\.random)\\b");
        Matcher imports = Pattern.compile("(?m)^import\\s+(.*);").matcher(source);
        while (imports.find()) {
            holds("rule 4: import of " + imports.group(1), IMPORTS.contains(imports.group(1)));
        }
        methodsAreShort(raw);
    }

    private static void methodsAreShort(String source) {
        // a method ends where a brace stands as far in as its first line
        Matcher methods = Pattern.compile("(?m)^( {4,8})(?! )(?!.*\\bclass\\b)[^/*\n]*\\) \\{\n(?:.*\n)*?\\1\\}$").matcher(source);
        int seen = 0;
        while (methods.find()) {
            seen++;
            long lines = methods.group().lines().count();
            holds("rule 11: some sixty lines, but " + lines + " of" + methods.group().lines().findFirst().get(), lines <= 60);
        }
        holds("methods are found in the text", seen > CALLS.size());
    }

    public static void main(String[] args) throws Exception {
        theClassIsPublicAndFinal();
        theConstructorIsOne();
        theMethodsAreTheCalls();
        theFieldsAreTheConstants();
        classesInsideAreStaticAndFew();
        fieldsAreFewAndStaticOnesFinal();
        methodsHaveNamesOfTheirOwn();
        theTextKeepsToTheRules();
        System.out.println(wrong == 0 ? "the face is the document's" : wrong + " things are not so");
        if (wrong != 0) {
            System.exit(1);
        }
    }
}
