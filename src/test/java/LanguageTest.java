import java.lang.reflect.Array;
import java.lang.reflect.Constructor;
import java.lang.reflect.Field;
import java.lang.reflect.Method;
import java.lang.reflect.Modifier;
import java.nio.file.Files;
import java.nio.file.Path;
import java.util.ArrayDeque;
import java.util.ArrayList;
import java.util.Arrays;
import java.util.Collections;
import java.util.Deque;
import java.util.IdentityHashMap;
import java.util.List;
import java.util.Set;
import java.util.TreeSet;
import java.util.regex.Matcher;
import java.util.regex.Pattern;

/** What can be told of the rules of LANGUAGE.md by the class and its source, and how much room an object takes. */
public final class LanguageTest {
    private static int wrong;

    public static void main(String[] args) throws Exception {
        String source = Files.readString(Path.of("src/main/java/PostUnion.java"));
        face();
        classes();
        words(source);
        room();
        System.out.println(wrong == 0 ? "LanguageTest: all as due" : "LanguageTest: " + wrong + " rules are broken");
        if (wrong != 0) {
            System.exit(1);
        }
    }

    private static void rule(int rule, boolean kept, String what) {
        if (!kept) {
            wrong++;
            System.out.println("rule " + rule + ": " + what);
        }
    }

    /** The members that are not private are those of the document, and no others. */
    private static void face() throws Exception {
        Set<String> due = new TreeSet<>();
        Matcher m = Pattern.compile("(?m)^    public (\\w+) (\\w+)\\(([^)]*)\\);").matcher(Files.readString(Path.of("../shared/DOC.md")));
        while (m.find()) {
            due.add(m.group(1) + " " + m.group(2) + "(" + m.group(3).replaceAll(" \\w+(,|$)", "$1").replace(" ", "") + ")");
        }
        rule(1, due.size() == 57, "the document has " + due.size() + " methods");
        Set<String> got = new TreeSet<>();
        for (Method method : PostUnion.class.getDeclaredMethods()) {
            if (!Modifier.isPrivate(method.getModifiers())) {
                rule(1, Modifier.isPublic(method.getModifiers()) && !Modifier.isStatic(method.getModifiers()), method.toString());
                List<String> types = new ArrayList<>();
                Arrays.stream(method.getParameterTypes()).forEach(t -> types.add(t.getName()));
                got.add(method.getReturnType().getName() + " " + method.getName() + "(" + String.join(",", types) + ")");
            }
        }
        rule(1, due.equals(got), "the face is " + got);
        for (Field field : PostUnion.class.getDeclaredFields()) {
            rule(1, Modifier.isPrivate(field.getModifiers()) || field.getName().equals("NONE"), field.toString());
        }
        Constructor<?>[] made = PostUnion.class.getDeclaredConstructors();
        rule(1, made.length == 1 && made[0].getParameterCount() == 0 && Modifier.isPublic(made[0].getModifiers()), "constructors");
        rule(1, Modifier.isFinal(PostUnion.class.getModifiers()), "final");
    }

    private static void classes() {
        Set<String> faces = new TreeSet<>();
        for (Method method : PostUnion.class.getMethods()) {
            faces.add(method.getName());
        }
        List<Class<?>> all = new ArrayList<>(Arrays.asList(PostUnion.class.getDeclaredClasses()));
        rule(11, all.size() < 12, all.size() + " classes inside");
        for (Class<?> inside : all) {
            rule(2, Modifier.isStatic(inside.getModifiers()), inside + " is not static");
        }
        all.add(PostUnion.class);
        for (Class<?> one : all) {
            int fields = 0;
            for (Field field : one.getDeclaredFields()) {
                boolean isStatic = Modifier.isStatic(field.getModifiers());
                fields += isStatic ? 0 : 1;
                rule(5, !isStatic || Modifier.isFinal(field.getModifiers()), field + " is not final");
            }
            rule(11, fields <= 20, one + " has " + fields + " fields");
            for (Method method : one.getDeclaredMethods()) {
                boolean isFace = one == PostUnion.class && Modifier.isPublic(method.getModifiers());
                rule(1, isFace || !faces.contains(method.getName()), method + " bears the name of a public one");
                rule(11, isFace || method.getParameterCount() <= 7, method + " has too many parameters");
            }
        }
    }

    private static void words(String source) {
        String bare = source.replaceAll("(?s)/\\*.*?\\*/", "").replaceAll("//[^\n]*", "").replaceAll("\"[^\"\n]*\"", "\"\"");
        for (String word : List.of("throw", "throws", "try", "catch", "finally", "synchronized", "assert", "import", "package", "native", "volatile", "transient", "instanceof")) {
            rule(6, !Pattern.compile("\\b" + word + "\\b").matcher(bare).find(), word);
        }
        rule(2, !bare.contains("->") && !bare.contains("::"), "a lambda or a method reference");
        rule(4, !Pattern.compile("Exact\\b").matcher(bare).find(), "a function whose name ends in Exact");
        rule(10, !Pattern.compile("\"\"\\s*\\+|\\+\\s*\"\"").matcher(bare).find(), "texts joined by +");
        Matcher calls = Pattern.compile("\\b(Math|Integer|Long|System|Arrays|String|StringBuilder)\\.(\\w+)").matcher(bare);
        Set<String> fine = Set.of("Math.min", "Math.max", "Math.abs", "Integer.MAX_VALUE", "Long.MAX_VALUE", "System.arraycopy");
        while (calls.find()) {
            rule(4, fine.contains(calls.group()), calls.group());
        }
        String[] lines = source.split("\n");
        int begun = 0;
        for (int k = 0; k < lines.length; k++) {
            if (lines[k].matches("    (    )?[a-zA-Z].*\\) \\{")) {
                begun = k;
            }
            if (lines[k].matches("    (    )?\\}")) {
                rule(11, k - begun <= 60 || lines[begun].contains("class"), "a method of " + (k - begun) + " lines at " + begun);
            }
        }
    }

    /** 512 new objects must find room beside one another, and calls must make nothing. */
    private static void room() throws Exception {
        PostUnion x = Check.union(7);
        for (int k = 0; k < 4; k++) {
            Check.treaty(x, "a:due gives weight;b:third gives 1;", 0);
        }
        Deque<Object> open = new ArrayDeque<>(List.of(x));
        Set<Object> seen = Collections.newSetFromMap(new IdentityHashMap<>());
        seen.add(x);
        long parts = 0;
        while (!open.isEmpty()) {
            Object one = open.pop();
            List<Object> inside = new ArrayList<>();
            if (one.getClass().isArray()) {
                parts += Array.getLength(one);
                if (one instanceof Object[] row) {
                    inside.addAll(Arrays.asList(row));
                }
            } else {
                for (Field field : one.getClass().getDeclaredFields()) {
                    if (!Modifier.isStatic(field.getModifiers())) {
                        parts++;
                        field.setAccessible(true);
                        if (!field.getType().isPrimitive()) {
                            inside.add(field.get(one));
                        }
                    }
                }
            }
            for (Object part : inside) {
                if (part != null && seen.add(part)) {
                    open.push(part);
                }
            }
        }
        rule(12, parts < 10_000, parts + " fields and elements in an object");
        rule(12, seen.size() < 300, seen.size() + " objects and arrays in an object");
        System.out.println("an object has " + seen.size() + " objects and arrays, " + parts + " fields and elements");
    }
}
