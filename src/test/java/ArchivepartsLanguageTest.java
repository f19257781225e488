import java.nio.charset.StandardCharsets;
import java.nio.file.Files;
import java.nio.file.Path;
import java.util.ArrayDeque;
import java.util.Deque;
import java.util.HashSet;
import java.util.List;
import java.util.Map;
import java.util.Set;
import java.util.TreeMap;
import java.util.TreeSet;
import java.util.regex.Matcher;
import java.util.regex.Pattern;

/**
 * Checks what can be read off the text of the program by the rules of LANGUAGE.md: words, imports, static
 * fields, exceptions, loops, sizes, and how deep calls go. It knows the form in which the file is written:
 * four signs of indent a level, the head of a method ending with its open brace. It is stricter than the
 * rules where the program needs less than they leave: no try, no loop but a counting one, no recursion.
 */
public final class ArchivepartsLanguageTest {
    private static final Path PROGRAM = Path.of("src/main/java/Archiveparts.java");
    private static final int DEEPEST = 8;
    private static final int LONGEST = 60;
    private static final int PARAMETERS = 7;
    private static final int CLASSES = 12;
    private static final int FIELDS = 20;

    private static final Pattern METHOD = Pattern.compile(
        "\\n((?: {4}){1,2})(?:(?:public|private|static|final) )*(?:[\\w\\[\\]]+ )?(\\w+)\\(([^)]*)\\)(?:\\s*throws[^{;]*)? \\{");
    private static final Pattern CALL = Pattern.compile("(\\w+)\\(");

    private static int wrong = 0;

    private static final class Method {
        final String name;
        final String body;
        final int parameters;

        Method(String ofName, String ofBody, int count) {
            name = ofName;
            body = ofBody;
            parameters = count;
        }
    }

    public static void main(String[] args) throws Exception {
        String text = Files.readString(PROGRAM, StandardCharsets.UTF_8);
        check(text.chars().allMatch(sign -> sign == '\n' || sign >= 32 && sign < 127), "plain signs alone");
        String code = text.replaceAll("(?s)/\\*.*?\\*/", "").replaceAll("//[^\\n]*", "");
        checkTexts(code);
        code = code.replaceAll("\"[^\"\\n]*\"", "\"\"").replaceAll("'[^']+'", "' '");
        checkWords(code);
        checkStatics(code);
        checkThrows(code);
        checkLoops(code);
        checkClasses(code);
        checkMethods(methodsOf(code));
        System.out.println(wrong == 0 ? "language: the rules hold" : "language: " + wrong + " faults");
        if (wrong != 0) {
            System.exit(1);
        }
    }

    private static void check(boolean holds, String what) {
        if (!holds) {
            wrong++;
            System.out.println("does not hold: " + what);
        }
    }

    /** Texts stand in exceptions alone, so none is joined and none is kept. */
    private static void checkTexts(String code) {
        for (String line : code.split("\n")) {
            check(line.indexOf('"') < 0 || line.strip().startsWith("throw new "), "a text in an exception alone: " + line);
        }
    }

    private static void checkWords(String code) {
        check(!Pattern.compile("(?m)^package ").matcher(code).find(), "no package line");
        Matcher imports = Pattern.compile("(?m)^import (.*);").matcher(code);
        while (imports.find()) {
            check(List.of("java.util.NoSuchElementException", "java.util.ArrayList", "java.util.Arrays", "java.util.List",
                "java.util.Iterator").contains(imports.group(1)), "import of " + imports.group(1));
        }
        for (String word : List.of("try", "catch", "finally", "synchronized", "assert", "protected", "volatile", "native",
            "transient", "var", "yield", "Object", "Thread", "Random", "Throwable", "Error", "hashCode",
            "equals", "toString", "NaN", "getMessage", "strictfp")) {
            check(!Pattern.compile("\\b" + word + "\\b").matcher(code).find(), "no word " + word);
        }
        check(!code.contains("->") && !code.contains("::"), "no lambda, no method reference");
        check(!code.contains("Exact("), "no function whose name ends in Exact");
        check(!code.contains("@"), "no annotation");
        Matcher library = Pattern.compile("\\b(Integer|Long|Math|Arrays|System)\\.(\\w+)").matcher(code);
        while (library.find()) {
            check(List.of("compare", "max", "min", "abs", "bitCount", "floorDiv", "floorMod", "arraycopy", "copyOf",
                "copyOfRange", "fill").contains(library.group(2)),
                "call of " + library.group());
        }
    }

    private static void checkStatics(String code) {
        Matcher fields = Pattern.compile("(?m)^ +((?:(?:private|public|static|final) )+)([\\w\\[\\]]+) \\w+( =|;)").matcher(code);
        while (fields.find()) {
            if (fields.group(1).contains("static")) {
                check(fields.group(1).contains("final"), "a static field is final:" + fields.group());
                check(List.of("int", "long", "boolean", "char", "String", "int[]", "long[]", "char[]", "byte[]")
                    .contains(fields.group(2)), "a static field is a constant:" + fields.group());
            }
        }
        check(!code.contains("static {"), "no static initialiser block");
    }

    private static void checkThrows(String code) {
        Matcher thrown = Pattern.compile("\\bthrow\\b[^;]*;").matcher(code);
        while (thrown.find()) {
            check(thrown.group().matches("throw new (IllegalState|IllegalArgument|IndexOutOfBounds|Arithmetic"
                + "|UnsupportedOperation|NoSuchElement|Runtime)Exception\\((\"\")?\\);"), "an exception of the list: " + thrown.group());
        }
    }

    /** Each loop is a counting one: it starts at a place, has a bound, and counts by one. */
    private static void checkLoops(String code) {
        check(!Pattern.compile("\\b(while|do)\\b").matcher(code).find(), "no loop but for");
        Matcher loops = Pattern.compile("\\bfor \\(([^\\n]*)\\) \\{").matcher(code);
        while (loops.find()) {
            check(loops.group(1).matches("int (\\w+) = [^;]*; \\1 (<|>=) [^;]*; \\1(\\+\\+|--)"), "a counting loop: " + loops.group());
        }
        check(count(code, "\\bfor\\b") == count(code, "\\bfor \\(([^\\n]*)\\) \\{"), "each loop in one line");
    }

    private static int count(String code, String pattern) {
        Matcher found = Pattern.compile(pattern).matcher(code);
        int count = 0;
        while (found.find()) {
            count++;
        }
        return count;
    }

    private static void checkClasses(String code) {
        check(count(code, "\\b(class|record|enum|interface) \\w+") <= CLASSES, "few classes");
        check(count(code, "(?m)^public ") == 1, "one public class");
        Matcher inner = Pattern.compile("(?m)^ +(.*)\\bclass (\\w+)").matcher(code);
        while (inner.find()) {
            check(inner.group(1).contains("static") && !inner.group(1).contains("public"), "a class inside is static and not public: "
                + inner.group(2));
        }
        String[] parts = code.split("\\bclass ");
        for (String part : parts) {
            int fields = count(part, "(?m)^ +(private |final )+[\\w\\[\\]]+ \\w+( = [^;]*)?;");
            check(fields <= FIELDS, "few fields: " + fields);
        }
    }

    private static Map<String, Method> methodsOf(String code) {
        Map<String, Method> methods = new TreeMap<>();
        Matcher heads = METHOD.matcher(code);
        while (heads.find()) {
            int end = code.indexOf("\n" + heads.group(1) + "}", heads.end());
            check(end >= 0, "the method " + heads.group(2) + " ends");
            String parameters = heads.group(3).strip();
            int count = parameters.isEmpty() ? 0 : parameters.split(",").length;
            Method method = new Method(heads.group(2), code.substring(heads.end(), Math.max(end, heads.end())), count);
            check(methods.put(method.name, method) == null, "one method of the name " + method.name);
        }
        check(methods.containsKey("isSound") && methods.containsKey("part") && methods.size() > 80, "the methods are found");
        return methods;
    }

    private static void checkMethods(Map<String, Method> methods) {
        for (Method method : methods.values()) {
            check(count(method.body, "\n") + 2 <= LONGEST, "a short method: " + method.name);
            check(method.parameters <= PARAMETERS, "few parameters: " + method.name);
            boolean isConstructor = Character.isUpperCase(method.name.charAt(0));
            check(!isConstructor || !method.body.contains("throw"), "no throw in a constructor: " + method.name);
            int depth = depthOf(method.name, methods, new ArrayDeque<>());
            check(depth <= DEEPEST, "calls go " + depth + " deep from " + method.name);
        }
        checkReached(methods);
    }

    /** How many calls stand open at once at the most, that of the method itself among them. */
    private static int depthOf(String name, Map<String, Method> methods, Deque<String> open) {
        if (open.contains(name)) {
            check(false, "no recursion: " + open + " " + name);
            return 0;
        }
        open.push(name);
        int deepest = 0;
        for (String called : callsIn(methods.get(name), methods)) {
            deepest = Math.max(deepest, depthOf(called, methods, open));
        }
        open.pop();
        return deepest + 1;
    }

    private static Set<String> callsIn(Method method, Map<String, Method> methods) {
        Set<String> called = new TreeSet<>();
        Matcher calls = CALL.matcher(method.body);
        while (calls.find()) {
            if (methods.containsKey(calls.group(1))) {
                called.add(calls.group(1));
            }
        }
        return called;
    }

    /** Nothing stands in the program that no call of the face uses. */
    private static void checkReached(Map<String, Method> methods) {
        Set<String> called = new HashSet<>();
        methods.values().forEach(each -> called.addAll(callsIn(each, methods)));
        Set<String> face = new HashSet<>();
        for (java.lang.reflect.Method each : Archiveparts.class.getMethods()) {
            face.add(each.getName());
        }
        for (String name : methods.keySet()) {
            boolean isConstructor = Character.isUpperCase(name.charAt(0));
            check(isConstructor || face.contains(name) || called.contains(name), "the method is used: " + name);
        }
    }
}
