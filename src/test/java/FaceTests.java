import java.lang.reflect.Constructor;
import java.lang.reflect.Field;
import java.lang.reflect.Method;
import java.lang.reflect.Modifier;
import java.nio.file.Files;
import java.nio.file.Path;
import java.util.Arrays;
import java.util.Set;
import java.util.TreeSet;
import java.util.regex.Matcher;
import java.util.regex.Pattern;

/** The class has just the members of the document's face: none is missing, none is more. */
public final class FaceTests {
    private static final Pattern FACE = Pattern.compile("```java\npublic final class BeastCave \\{\n(.*?)\n\\}\n```", Pattern.DOTALL);
    private static final Pattern PROMISED = Pattern.compile("## Promise \\d+: \\S.*?\n\n`([^`]*)`");

    public static void main(String[] args) throws Exception {
        String document = Files.readString(Path.of("../shared/DOC.md"));
        Set<String> due = new TreeSet<>();
        Matcher face = FACE.matcher(document);
        boolean right = face.find();
        for (String line : right ? face.group(1).split("\n") : new String[0]) {
            due.add(plain(line.replace("public ", "")));
        }
        Set<String> promised = new TreeSet<>();
        Matcher promise = PROMISED.matcher(document);
        while (promise.find()) {
            promised.add(plain(promise.group(1)));
        }
        promised.add("static final int NONE = -1");
        right &= same("the promises", promised, due);
        right &= same("the class", members(), due);
        right &= Modifier.isFinal(BeastCave.class.getModifiers()) && Modifier.isPublic(BeastCave.class.getModifiers());
        System.out.println(right ? due.size() + " members are the face" : "the face is not the document's");
        if (!right) {
            System.exit(1);
        }
    }

    /** Without the names of what is given. */
    private static String plain(String line) {
        return line.strip().replace(";", "").replaceAll("(int|long|boolean) \\w+(?=[,)])", "$1").replace(", ", ",");
    }

    private static boolean same(String whose, Set<String> got, Set<String> due) {
        for (String member : due) {
            if (!got.contains(member)) {
                System.out.println(whose + ": there is no " + member);
            }
        }
        for (String member : got) {
            if (!due.contains(member)) {
                System.out.println(whose + ": the face has no " + member);
            }
        }
        return got.equals(due);
    }

    /** All that others can see of the class, but for the classes inside it. */
    private static Set<String> members() throws Exception {
        Set<String> all = new TreeSet<>();
        for (Field field : BeastCave.class.getDeclaredFields()) {
            if (!Modifier.isPrivate(field.getModifiers())) {
                all.add("static final " + field.getType() + " " + field.getName() + " = " + field.get(null));
            }
        }
        for (Constructor<?> made : BeastCave.class.getDeclaredConstructors()) {
            if (!Modifier.isPrivate(made.getModifiers())) {
                all.add("BeastCave" + given(made.getParameterTypes()));
            }
        }
        for (Method method : BeastCave.class.getDeclaredMethods()) {
            if (!Modifier.isPrivate(method.getModifiers()) && !method.isSynthetic()) {
                all.add((Modifier.isPublic(method.getModifiers()) ? "" : "hidden ") + method.getReturnType() + " "
                    + method.getName() + given(method.getParameterTypes()));
            }
        }
        return all;
    }

    private static String given(Class<?>[] types) {
        return Arrays.toString(types).replace("[", "(").replace("]", ")").replace(", ", ",");
    }
}
