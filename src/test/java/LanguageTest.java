import com.sun.management.ThreadMXBean;
import java.io.IOException;
import java.lang.management.ManagementFactory;
import java.lang.reflect.Executable;
import java.lang.reflect.Field;
import java.lang.reflect.Method;
import java.lang.reflect.Modifier;
import java.nio.file.Files;
import java.nio.file.Path;
import java.util.ArrayList;
import java.util.Arrays;
import java.util.List;
import java.util.Set;
import java.util.TreeSet;
import java.util.regex.Matcher;
import java.util.regex.Pattern;
import java.util.stream.Collectors;

/** What of ../shared/LANGUAGE.md can be seen in the source and by reflection, and how much calls make. */
public final class LanguageTest {
    private static final Check check = new Check();
    private static final Class<?> FACE = WhistlePosts.class;
    private static final String EXCEPTIONS =
        "(IllegalState|IllegalArgument|IndexOutOfBounds|Arithmetic|UnsupportedOperation|NoSuchElement|Runtime)Exception";

    private LanguageTest() {
    }

    public static void main(String[] args) throws IOException {
        String source = Files.readString(Path.of("src/main/java/WhistlePosts.java"));
        faceIsThatOfTheDocument(Files.readString(Path.of("../shared/DOC.md")));
        nothingElseIsOpen();
        fieldsAreFew();
        parametersAreFew();
        staticsAreConstants();
        libraryIsAllowed(withoutTexts(source));
        wordsAreAllowed(withoutTexts(source));
        exceptionsAreAllowed(source);
        methodsAreShort(source);
        callsMakeFew();
        objectsAreSmall();
        check.end();
    }

    private static List<Class<?>> classes() {
        List<Class<?>> all = new ArrayList<>(List.of(FACE.getDeclaredClasses()));
        all.add(FACE);
        return all;
    }

    /** The declarations as the document has them, but for the names of the parameters. */
    private static void faceIsThatOfTheDocument(String doc) {
        check.part("rule 1, the face");
        Set<String> due = new TreeSet<>();
        String block = doc.substring(doc.indexOf("public final class WhistlePosts {"), doc.indexOf("## Terms"));
        Matcher line = Pattern.compile("^    public (.*);$", Pattern.MULTILINE).matcher(block);
        while (line.find()) {
            due.add(line.group(1).replaceAll("(int|boolean) \\w+([,)])", "$1$2"));
        }
        Set<String> face = new TreeSet<>(Set.of("WhistlePosts()"));
        for (Method method : FACE.getDeclaredMethods()) {
            if (Modifier.isPublic(method.getModifiers())) {
                String thrown = Arrays.stream(method.getExceptionTypes()).map(Class::getSimpleName).collect(Collectors.joining(", "));
                String types = Arrays.stream(method.getParameterTypes()).map(Class::getSimpleName).collect(Collectors.joining(", "));
                face.add(method.getReturnType() + " " + method.getName() + "(" + types + ")" + (thrown.isEmpty() ? "" : " throws " + thrown));
            }
        }
        for (Field field : FACE.getDeclaredFields()) {
            if (Modifier.isPublic(field.getModifiers())) {
                face.add("static final int " + field.getName() + " = " + valueOf(field));
            }
        }
        check.is("declarations", due.size() > 40, true);
        check.isText("the face", String.join("\n", face), String.join("\n", due));
    }

    private static int valueOf(Field field) {
        try {
            return field.getInt(null);
        } catch (IllegalAccessException e) {
            throw new IllegalStateException(e);
        }
    }

    private static void nothingElseIsOpen() {
        check.part("rule 1, nothing else");
        check.is("final", Modifier.isFinal(FACE.getModifiers()), true);
        Set<String> open = new TreeSet<>();
        for (Method method : FACE.getDeclaredMethods()) {
            int modifiers = method.getModifiers();
            check.is(method.getName() + " is public or private", Modifier.isPublic(modifiers) || Modifier.isPrivate(modifiers), true);
            if (Modifier.isPublic(modifiers)) {
                open.add(method.getName());
            }
        }
        for (Field field : FACE.getDeclaredFields()) {
            int modifiers = field.getModifiers();
            check.is(field.getName() + " is public or private", Modifier.isPublic(modifiers) || Modifier.isPrivate(modifiers), true);
        }
        for (Class<?> each : classes()) {
            for (Method method : each.getDeclaredMethods()) {
                boolean isPrivate = Modifier.isPrivate(method.getModifiers());
                check.is(each.getSimpleName() + "." + method.getName() + " bears a public name", isPrivate && open.contains(method.getName()), false);
                boolean isOfObject = Set.of("equals", "hashCode", "toString").contains(method.getName());
                check.is(method.getName() + " is of Object", isOfObject && !each.isRecord(), false);
            }
            if (each != FACE) {
                check.is(each.getSimpleName() + " is static", Modifier.isStatic(each.getModifiers()), true);
                check.is(each.getSimpleName() + " is not public", Modifier.isPublic(each.getModifiers()), false);
            }
        }
    }

    private static void fieldsAreFew() {
        check.part("rule 11, classes and fields");
        check.is("classes", classes().size() <= 12, true);
        for (Class<?> each : classes()) {
            long fields = Arrays.stream(each.getDeclaredFields()).filter(f -> !Modifier.isStatic(f.getModifiers())).count();
            check.is(each.getSimpleName() + " has few fields", fields <= 20, true);
        }
    }

    private static void parametersAreFew() {
        check.part("rule 11, parameters");
        for (Class<?> each : classes()) {
            List<Executable> all = new ArrayList<>(List.of(each.getDeclaredMethods()));
            all.addAll(List.of(each.getDeclaredConstructors()));
            for (Executable method : all) {
                check.is(each.getSimpleName() + "." + method.getName(), method.getParameterCount() <= 7, true);
            }
        }
    }

    private static void staticsAreConstants() {
        check.part("rule 5");
        for (Class<?> each : classes()) {
            for (Field field : each.getDeclaredFields()) {
                if (Modifier.isStatic(field.getModifiers())) {
                    check.is(field.getName() + " is final", Modifier.isFinal(field.getModifiers()), true);
                    Class<?> type = field.getType().isArray() ? field.getType().getComponentType() : field.getType();
                    boolean isConstant = Set.of(int.class, long.class, boolean.class, char.class, byte.class, String.class).contains(type);
                    check.is(field.getName() + " is a constant", isConstant || type.isEnum(), true);
                }
            }
        }
    }

    private static String withoutTexts(String source) {
        return source.replaceAll("(?s)/\\*.*?\\*/", " ").replaceAll("//[^\n]*", " ")
            .replaceAll("\"(\\\\.|[^\"\\\\])*\"", "\"\"").replaceAll("'(\\\\.|[^'\\\\])'", "' '");
    }

    private static Set<String> found(String code, String pattern) {
        Set<String> all = new TreeSet<>();
        Matcher matcher = Pattern.compile(pattern).matcher(code);
        while (matcher.find()) {
            all.add(matcher.group());
        }
        return all;
    }

    private static void libraryIsAllowed(String code) {
        check.part("rules 3 and 4");
        Set<String> imports = found(code, "import [^;]+");
        imports.removeIf(line -> line.matches("import java\\.util\\.(ArrayList|Arrays|Iterator|List|NoSuchElementException)"));
        check.isText("imports", imports.toString(), "[]");
        Set<String> library = found(code, "\\b(System|Math|Integer|Long|Arrays|Character|Double|Float|Objects|List|Thread|Runtime)\\.\\w+");
        library.removeIf(call -> call.matches("System\\.arraycopy|(Math|Integer|Long)\\.\\w+|Arrays\\.(copyOf|copyOfRange|fill)|List\\.of"));
        library.addAll(found(code, "\\b(Math|Integer|Long)\\.(\\w+Exact|random|parse\\w+|valueOf|toString)\\b"));
        check.isText("of the library", library.toString(), "[]");
        Set<String> types = found(code, "\\b[A-Z]\\w*[a-z]\\w*\\b");
        for (Class<?> each : classes()) {
            types.remove(each.getSimpleName());
        }
        types.removeAll(Set.of("String", "StringBuilder", "System", "Math", "Integer", "Long", "Arrays", "ArrayList", "List",
            "Iterator", "Iterable", "Comparable", "Override"));
        types.removeIf(type -> type.matches(EXCEPTIONS));
        check.isText("types", types.toString(), "[]");
        check.is("arrays of three dimensions", code.contains("[][]["), false);
        check.is("signs up to 127 alone", code.chars().allMatch(c -> c < 128), true);
    }

    private static void wordsAreAllowed(String code) {
        check.part("rules 6 and 10");
        for (String word : List.of("finally", "synchronized", "assert", "native", "volatile", "transient", "strictfp", "package")) {
            check.isText(word, found(code, "\\b" + word + "\\b").toString(), "[]");
        }
        check.is("lambdas", code.replaceAll("(case [^;{}]*|default *)->", "").contains("->"), false);
        check.is("method references", code.contains("::"), false);
        check.isText("texts joined by +", found(code, "\"\\s*\\+|\\+\\s*\"").toString(), "[]");
        check.isText("static blocks", found(code, "static\\s*\\{").toString(), "[]");
    }

    private static void exceptionsAreAllowed(String source) {
        check.part("rule 6, exceptions");
        Set<String> all = found(source, "\\bthrow [^;]*;");
        check.is("throws", all.size() > 5, true);
        for (String each : all) {
            check.is(each, each.matches("throw new " + EXCEPTIONS + "\\((\"[^\"]+\")?\\);"), true);
        }
    }

    /** A method begins where a line that ends with { stands in a class; it ends where } stands below that line's first sign. */
    private static void methodsAreShort(String source) {
        check.part("rule 11, methods");
        String[] lines = source.split("\n");
        int methods = 0;
        for (int i = 0; i < lines.length; i++) {
            Matcher begin = Pattern.compile("^( {4}| {8})(\\w[^;={]*\\)[^;={]*)\\{$").matcher(lines[i]);
            if (begin.find() && !begin.group(2).matches("(if|for|while|do|switch|else|return)\\b.*")) {
                int end = i;
                while (!lines[end].equals(begin.group(1) + "}")) {
                    end++;
                }
                methods++;
                check.is(begin.group(2) + "has few lines", end - i + 1 <= 60, true);
                i = end;
            }
        }
        check.is("methods are found", methods > 38, true);
    }

    private static long bytesMade() {
        return ((ThreadMXBean) ManagementFactory.getThreadMXBean()).getCurrentThreadAllocatedBytes();
    }

    /** One room of 7.3 million fields and elements for all calls of a run, however small each of them is. */
    private static void callsMakeFew() {
        check.part("rule 12, calls");
        long made = 0;
        for (int round = 0; round < 20; round++) {
            CountedPost post = Check.loaded(Check.tenRoofs().replace("0 0 0;", "1 1 99;") + Check.ways(20));
            String script = "send a j 1 2 3 4 5;ask j b 1 2;tick 3;give a 5;cut a b;wind 9;dusk 60;again 3;tick 9;";
            Check.feed(post, script);
            long before = bytesMade();
            post.playScript();
            callAll(post);
            made = bytesMade() - before;
        }
        check.is("bytes that some 500 calls made: " + made, made < 7300000, true);
    }

    private static void callAll(CountedPost post) {
        for (int i = 0; i < 13; i++) {
            if (post.count(2) < 30) {
                post.send(i % 10, (i + 3) % 10, 1234567, true);
            }
            post.tick(7);
            post.give(i % 10, 9);
            post.set(8, i % 10);
            post.saveState();
            for (int tune = 0; tune < 3; tune++) {
                post.arrivesIn(tune);
                post.why(tune, 1);
                post.tune(tune, 10);
                post.printTune(tune);
                post.note(tune, 1, true);
            }
            post.growsBy(i % 11, 200);
            post.dearestWay();
            post.agree();
            post.meanPurse();
            post.rightPart();
            post.printRoofs();
            post.calmest(0, i % 10);
            post.wrongOn(0, i % 10, 8);
            post.costOf(0, i % 10, 8);
            post.waiting(i % 10, 0);
            post.count(i % 14);
            post.undo();
            if (i % 4 == 3) {
                post.restoreState();
                post.cut(i / 4, i / 4 + 2);
                post.loadPost();
            }
        }
    }

    private static void objectsAreSmall() {
        check.part("rule 12, objects");
        long before = bytesMade();
        CountedPost post = new CountedPost();
        long made = bytesMade() - before;
        check.is("bytes of a new object: " + made, made < 1000000, true);
        check.is("roofs", post.count(0), 4);
    }
}
