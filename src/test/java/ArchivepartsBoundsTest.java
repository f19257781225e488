import java.lang.reflect.InvocationTargetException;
import java.lang.reflect.Method;
import java.math.BigInteger;
import java.util.ArrayList;
import java.util.HashMap;
import java.util.List;
import java.util.Map;

/**
 * The boundary cases that the document names: the smallest and the largest that is allowed and the first
 * beyond, the empty and the full container, the wrap-around of sums, and each refused call with the
 * exception that goes ahead. A refused call is made on one of two objects that are alike, and all looks
 * must answer the same for both then.
 *
 * A call is told as a line: "name: method(arguments) = answer". The name is typed ahead of the call; an
 * exception is told by its name. No object gets more calls than the 512 that the document promises.
 */
public final class ArchivepartsBoundsTest {
    private static final int CALLS = 512;
    private static final String ARGUMENT = "IllegalArgumentException";
    private static final String STATE = "IllegalStateException";
    private static final String INDEX = "IndexOutOfBoundsException";
    private static final String UNSUPPORTED = "UnsupportedOperationException";
    private static final String ELEMENT = "NoSuchElementException";
    private static final String ARITHMETIC = "ArithmeticException";
    private static final int MIN = Integer.MIN_VALUE;
    private static final int MAX = Integer.MAX_VALUE;

    private static final Map<String, Method> METHODS = new HashMap<>();
    private static int wrong = 0;
    private static int checks = 0;

    public static void main(String[] args) {
        for (Method method : Archiveparts.class.getMethods()) {
            METHODS.put(method.getName(), method);
        }
        signs();
        typedSigns();
        names();
        namesThatClash();
        foldersThatClash();
        numbersOfParts();
        numbersOfRelations();
        places();
        sorts();
        kinds();
        endings();
        steps();
        stepsUpToTheTop();
        foldersAlike();
        pieces();
        letters();
        refusedOthers();
        whichExceptionFirst();
        limitOfParts();
        limitOfRelations();
        nothingThere();
        onePartAlone();
        allDropped();
        wrappingMarks();
        wrappingContents();
        wrappingChecksum();
        fullWalk();
        fullCounts();
        fullRewritings();
        wornOut();
        rewritingBounds();
        brokenStays();
        damagesChangeNothingElse();
        circleBounds();
        walkBounds();
        lastCall();
        System.out.println(wrong == 0
            ? "bounds: all " + checks + " answers are as due"
            : "bounds: " + wrong + " of " + checks + " answers are not as due");
        if (wrong != 0) {
            System.exit(1);
        }
    }

    // ---- lines ----

    /** An object and what was called on it. */
    private static final class Box {
        private final Archiveparts x = new Archiveparts();
        private int calls = 0;

        void type(String text) {
            for (char sign : text.toCharArray()) {
                count();
                x.type(sign);
            }
        }

        private void count() {
            calls++;
            if (calls > CALLS) {
                throw new AssertionError("the test makes more than 512 calls on one object");
            }
        }

        /** Types the name of the line and makes its call. */
        String answer(String line) {
            int colon = line.indexOf(": ");
            if (colon >= 0) {
                type(line.substring(0, colon));
            }
            return callOf(line.substring(colon < 0 ? 0 : colon + 2));
        }

        private String callOf(String call) {
            int open = call.indexOf('(');
            Method method = METHODS.get(call.substring(0, open));
            String inside = call.substring(open + 1, call.length() - 1);
            String[] texts = inside.isEmpty() ? new String[0] : inside.split(", ");
            Class<?>[] types = method.getParameterTypes();
            if (texts.length != types.length) {
                throw new AssertionError("arguments of " + call);
            }
            Object[] arguments = new Object[texts.length];
            for (int i = 0; i < texts.length; i++) {
                arguments[i] = argument(types[i], texts[i]);
            }
            count();
            try {
                return String.valueOf(method.invoke(x, arguments));
            } catch (InvocationTargetException e) {
                return thrown(e.getCause());
            } catch (IllegalAccessException e) {
                throw new AssertionError(e);
            }
        }
    }

    private static Object argument(Class<?> type, String text) {
        if (type == char.class) {
            return text.charAt(0);
        }
        if (type == boolean.class) {
            return Boolean.parseBoolean(text);
        }
        return Integer.parseInt(text);
    }

    /** What the machine throws by itself would come from a class of the library or be of a class below. */
    private static String thrown(Throwable cause) {
        StackTraceElement[] trace = cause.getStackTrace();
        boolean isOwn = trace.length > 0 && trace[0].getClassName().startsWith("Archiveparts");
        return cause.getClass().getSimpleName() + (isOwn ? "" : " of the library");
    }

    private static void check(String sentence, String what, Object got, Object want) {
        checks++;
        if (!String.valueOf(want).equals(String.valueOf(got))) {
            wrong++;
            System.out.println(sentence + ": " + what + " answered " + got + ", due is " + want);
        }
    }

    private static Box made(String... lines) {
        Box box = new Box();
        for (String line : lines) {
            perform(box, "set-up", line);
        }
        return box;
    }

    private static void perform(Box box, String sentence, String line) {
        int equals = line.lastIndexOf(" = ");
        String call = equals < 0 ? line : line.substring(0, equals);
        String got = box.answer(call);
        if (equals >= 0) {
            check(sentence, call, got, line.substring(equals + 3));
        }
    }

    private static void run(String sentence, String... lines) {
        runOn(new String[0], sentence, lines);
    }

    private static void runOn(String[] setup, String sentence, String... lines) {
        Box box = made(setup);
        for (String line : lines) {
            perform(box, sentence, line);
        }
    }

    private static String[] join(String[] first, String... then) {
        List<String> all = new ArrayList<>(List.of(first));
        all.addAll(List.of(then));
        return all.toArray(new String[0]);
    }

    // ---- nothing changes ----

    /** The call is refused, and behind that all looks answer as they do without the call. */
    private static void refused(String[] setup, String sentence, String name, String call, String exception) {
        List<String> looks = looksAtAll(setup);
        int done = 0;
        while (done < looks.size()) {
            Box one = made(setup);
            Box twin = made(setup);
            one.type(name);
            twin.type(name);
            String what = "'" + name + "' " + call;
            check(sentence, what, one.answer(call), exception);
            int start = done;
            while (done < looks.size() && (start == done || fits(twin, looks.get(done)))) {
                String look = looks.get(done);
                check(sentence, look + " behind the refused " + what, look(one, look), look(twin, look));
                done++;
            }
        }
    }

    private static boolean fits(Box box, String look) {
        return box.calls + (look.startsWith("*") ? 37 : look.length()) < CALLS;
    }

    /** A look with a star goes on over all places until there is none. */
    private static String look(Box box, String look) {
        if (!look.startsWith("*")) {
            return box.answer(look);
        }
        StringBuilder all = new StringBuilder();
        for (int place = 0; place < 37; place++) {
            String sign = box.answer(look.substring(1).replace("#", "" + place));
            all.append(sign);
            if (sign.length() > 1) {
                break;
            }
        }
        return all.toString();
    }

    /** Those that change something stand last: what is typed, own kinds, endings, and the next numbers. */
    private static List<String> looksAtAll(String[] setup) {
        int parts = 1;
        int relations = 1;
        for (String line : setup) {
            parts += line.contains(": part(") ? 1 : 0;
            relations += line.contains(": relate(") || line.startsWith("outer(") ? 1 : 0;
        }
        List<String> looks = new ArrayList<>();
        for (String look : new String[] {"parts()", "relations(a)", "relations(i)", "relations(o)", "relations(b)",
            "walked()", "orphans()", "circles()", "checksum()", "brokenShare()", "meanPieces()", "isSound()",
            "find()", "below()", "walkAt(0)", "walkAt(1)", "walkAt(2)", "walkAt(29)"}) {
            looks.add(look);
        }
        for (int part = 0; part < parts; part++) {
            for (String look : new String[] {"content(", "mark(", "kind(", "isInCircle(", "isHurt("}) {
                looks.add(look + part + ")");
            }
            looks.add("*name(" + part + ", #)");
        }
        for (int relation = 0; relation < relations; relation++) {
            for (char what : "fsrubo".toCharArray()) {
                looks.add("of(" + relation + ", " + what + ")");
            }
            looks.add("target(" + relation + ")");
            looks.add("outside(" + relation + ")");
            looks.add("*written(" + relation + ", #)");
        }
        looks.add("part(77)");
        looks.add("*name(" + (parts - 1) + ", #)");
        looks.add("wipe()");
        for (int part = 0; part < parts; part++) {
            looks.add("override(" + part + ", -1)");
        }
        for (String ending : new String[] {"x", "y", "zz"}) {
            looks.add(ending + ": ending(-1)");
        }
        looks.add("9/9/9/9: part(1)");
        looks.add("outer(-1, 0, 1)");
        return looks;
    }

    // ---- set-ups ----

    /** Six parts were made and ten relations, some of them hurt, broken, dropped or taken away. */
    private static final String[] TOWN = {
        "a/b/c/d.x: part(5) = 0", "a/b/e: part(-6) = 1", "a/f.y: part(" + MAX + ") = 2", "g: part(" + MIN + ") = 3",
        "h/i: part(1) = 4", "k/l: part(0) = 5",
        "x: ending(0) = -1", "y: ending(9) = -1", "override(3, 7) = -1",
        "a/b/c/d.x: relate(-1, 0, false, 0) = 0", "b/e: relate(0, 9, true, 2) = 1", "e: relate(1, 1, true, 0) = 2",
        "h/i: relate(3, 2, false, 0) = 3", "none: relate(1, 3, true, 3) = 4", "outer(2, 4, " + MIN + ") = 5",
        "g: relate(4, 5, false, 0) = 6", "outer(-1, 6, 7) = 7", "g: relate(-1, 7, true, 0) = 8",
        "a/b/c/d.x: relate(1, 8, true, 2) = 9",
        "drop(4) = 1", "unrelate(7) = -1", "damageContent(2, 8) = " + MAX, "m/n: damageName(5) = 0",
        "q: damageRelation(9) = true"};

    private static final String[] FULL = full();
    private static final String[] WORN = join(FULL, "drop(5) = 1", "drop(29) = 1", "unrelate(0) = 0", "unrelate(58) = -1");

    private static String forty() {
        return "abcdefghij".repeat(4);
    }

    private static String nameOf(int part) {
        return part < 20 ? "" + (char) ('a' + part) : "z/" + (part - 20);
    }

    /**
     * 30 parts, a to t and z/0 to z/9, and 60 relations: a chain from the container over all parts, outer
     * ones of the first 20 parts, and broken ones of the last ten.
     */
    private static String[] full() {
        List<String> lines = new ArrayList<>();
        for (int i = 0; i < 30; i++) {
            lines.add(nameOf(i) + ": part(" + i * 100 + ") = " + i);
        }
        for (int i = 0; i < 30; i++) {
            boolean isNear = i > 20;
            lines.add((isNear ? "" + (i - 20) : nameOf(i)) + ": relate(" + (i - 1) + ", " + i % 10 + ", " + isNear
                + ", 0) = " + i);
        }
        for (int i = 30; i < 50; i++) {
            lines.add("outer(" + (i - 30) + ", 9, " + i + ") = " + i);
        }
        for (int i = 50; i < 60; i++) {
            lines.add("y: relate(" + (i - 30) + ", 0, true, 1) = " + i);
        }
        return lines.toArray(new String[0]);
    }

    /** A mark or a sum as the document tells it, with numbers that have no bound, cut at the end. */
    private static BigInteger further(BigInteger sum, long plus) {
        return sum.multiply(BigInteger.valueOf(31)).add(BigInteger.valueOf(plus));
    }

    private static int markOf(String name, int content) {
        BigInteger mark = BigInteger.valueOf(7);
        for (char sign : name.toCharArray()) {
            mark = further(mark, sign);
        }
        return further(mark, content).intValue();
    }

    // ---- promises 2 and 3: signs ----

    /** "a small letter, a digit, '.' or '/'", and "if there is no such sign": every sign there is. */
    private static void signs() {
        String signs = "abcdefghijklmnopqrstuvwxyz0123456789./";
        Archiveparts x = new Archiveparts();
        int calls = 0;
        for (int i = 0; i <= Character.MAX_VALUE; i++) {
            if (calls > CALLS - 4) {
                x = new Archiveparts();
                calls = 0;
            }
            char sign = (char) i;
            Object got;
            try {
                got = x.type(sign);
            } catch (RuntimeException e) {
                got = thrown(e);
            }
            boolean isSign = signs.indexOf(sign) >= 0;
            check("promise 2", "type " + i, got, isSign ? 1 : ARGUMENT);
            check("promise 2", "wipe behind type " + i, x.wipe(), isSign ? 1 : 0);
            calls += 2;
        }
    }

    /** "Returns how many are typed", "if there are 40", "Returns how many there were". */
    private static void typedSigns() {
        Box box = new Box();
        check("promise 3", "wipe of nothing", box.answer("wipe()"), 0);
        for (int i = 1; i <= 40; i++) {
            check("promise 2", "sign " + i, box.answer("type(/)"), i);
        }
        check("promise 2", "sign 41", box.answer("type(a)"), STATE);
        check("promise 2", "no sign ahead of 40", box.answer("type(A)"), ARGUMENT);
        check("promise 3", "wipe of 40", box.answer("wipe()"), 40);
        check("promise 3", "wipe again", box.answer("wipe()"), 0);
        check("promise 2", "the first sign again", box.answer("type(.)"), 1);
        check("promise 3", "wipe of one", box.answer("wipe()"), 1);
        for (String[] setup : new String[][] {new String[0], TOWN}) {
            refused(setup, "promise 2", forty(), "type(a)", STATE);
            refused(setup, "promise 2", forty(), "type(A)", ARGUMENT);
            refused(setup, "promise 2", "", "type(A)", ARGUMENT);
            refused(setup, "promise 2", "new", "type( )", ARGUMENT);
        }
    }

    // ---- names ----

    private static final String[] GOOD = {"a", "z", "0", "9", "ab", "abcdefgh", "01234567", "a.b", "a.b.c.d", "ab.cd.ef",
        "a/b", "a/b/c", "a/b/c/d", "a/a/a/a", "abcdefgh/ijklmnop/qrstuvwx/yz012345", "abcdefgh/ijklmnop/qrstuvwx",
        "a.b/c.d/e.f/g.h", "a.bcdefg/h", "abcdef.g/h"};

    private static final String[] BAD = {"", ".", "/", "..", "//", "a.", ".a", "a..b", "a/", "/a", "a//b", "a/.b", "a./b",
        "a/b.", "a/.", "./a", "abcdefghi", "abcdefgh.", ".abcdefgh", "abcdefg.h", "a/abcdefghi", "abcdefghi/a",
        "a/b/c/abcdefghi", "a/b/c/d/e", "a/b/c/d/", "/a/b/c/d", "a/b//d", "a/b/c//", "a/b/c/.",
        "abcdefgh/ijklmnop/qrstuvwx/yz0123456", "abcdefgh/ijklmnop/qrstuvwx/yz012345/",
        "abcdefgh/ijklmnop/qrstuvwx/yz012345/abcd", "abcdefghijabcdefghijabcdefghijabcdefghij",
        "////////////////////////////////////////"};

    private static final String[] QRST = {"q/r/s/t: part(1) = 0", "q/r/s/t: relate(-1, 0, false, 0) = 0"};

    private static final String[] NAMING = {"part(9)", "find()", "below()", "relate(0, 0, false, 0)", "relate(-1, 0, true, 3)",
        "rename(0)", "damageName(0)", "damageRelation(0)", "renameFolder(0, 3)"};

    private static final String[] NAMED = {"1", "-1", "0", "1", "1", "1", "1", "true", "1"};

    /** "1 to 4 pieces", "each of 1 to 8 small letters, digits and dots, a dot neither first nor last nor beside another one". */
    private static void names() {
        for (int i = 0; i < NAMING.length; i++) {
            boolean wipes = !NAMING[i].equals("find()") && !NAMING[i].equals("below()");
            boolean isFolder = NAMING[i].startsWith("renameFolder");
            for (String name : GOOD) {
                boolean isTooLong = isFolder && name.split("/").length > 3;
                runOn(QRST, "a name", name + ": " + NAMING[i] + " = " + (isTooLong ? UNSUPPORTED : NAMED[i]),
                    "wipe() = " + (wipes && !isTooLong ? 0 : name.length()));
            }
            for (String name : BAD) {
                runOn(QRST, "no name", name + ": " + NAMING[i] + " = " + UNSUPPORTED, "wipe() = " + name.length());
            }
            for (String name : new String[] {"", "a//b", "a/b/c/d/e", "abcdefghi", forty()}) {
                refused(TOWN, "no name", name, NAMING[i], UNSUPPORTED);
            }
        }
        run("the longest name", "abcdefgh/ijklmnop/qrstuvwx/yz012345: part(3) = 0", "name(0, 34) = 5",
            "name(0, 35) = " + ELEMENT, "mark(0) = " + markOf("abcdefgh/ijklmnop/qrstuvwx/yz012345", 3),
            "abcdefgh/ijklmnop/qrstuvwx/yz012345: relate(0, 0, true, 3) = 0", "target(0) = 0", "written(0, 34) = 5",
            "written(0, 35) = " + ELEMENT, "yz012345: relate(0, 0, true, 0) = 1", "target(1) = 0",
            "abcdefgh/ijklmnop/qrstuvwx/yz012346: rename(0) = 2", "name(0, 34) = 6", "written(0, 8) = " + ELEMENT,
            "written(0, 7) = 6", "of(0, u) = 0", "meanPieces() = 4.0", "isSound() = true");
    }

    /** "No two parts have one name, and no name is a folder of another one, or of what stands above that." */
    private static void namesThatClash() {
        String[] setup = {"m/n/o/p: part(1) = 0", "s: part(2) = 1", "v: part(3) = 2"};
        String[] taken = {"m", "m/n", "m/n/o", "m/n/o/p", "s", "s/a", "s/a/b", "s/a/b/c"};
        String[] free = {"mm", "m/nn", "m/n/oo", "m/n/o/pp", "m/n/o/q", "m/n/o.p", "m/n.o/p", "n", "n/o/p", "p", "ss", "s.a",
            "s0/a", "sa/b/c/d", "a/s", "a/s/b", "0/m/n/o"};
        for (String name : taken) {
            for (String call : new String[] {"part(9)", "rename(2)", "damageName(2)"}) {
                refused(setup, "a name that is taken", name, call, UNSUPPORTED);
            }
        }
        for (String name : free) {
            runOn(setup, "a name that is free", name + ": part(9) = 3");
            runOn(setup, "a name that is free", name + ": rename(2) = 0");
            runOn(setup, "a name that is free", name + ": damageName(2) = 0");
        }
        for (String call : new String[] {"rename(", "damageName("}) {
            for (String own : new String[] {"m", "m/n", "m/n/o", "m/n/o/p"}) {
                runOn(setup, "its own name and its folders are not another part's", own + ": " + call + "0) = 0", "wipe() = 0");
            }
            for (String own : new String[] {"s", "s/a", "s/a/b", "s/a/b/c"}) {
                runOn(setup, "its own name and what is below are not another part's", own + ": " + call + "1) = 0");
            }
            runOn(setup, "the name before is free", "t: " + call + "1) = 0", "s/a: part(9) = 3", "s: find() = -1",
                "/a: find() = 3");
        }
        runOn(setup, "the name of a dropped part is free", "drop(0) = 0", "m/n: part(9) = 3", "drop(1) = 0",
            "s/a/b/c: part(9) = 4", "m/n/o/p: rename(3) = 0", "s: rename(4) = 0");
    }

    /** "a name would have more than 4 pieces, or another part that is not below it has a name that one would have, or ..." */
    private static void foldersThatClash() {
        String[] setup = {"a/x: part(1) = 0", "a/y/z: part(2) = 1", "b/x: part(3) = 2", "c: part(4) = 3", "d/y: part(5) = 4",
            "e/y/z/w: part(6) = 5", "f: part(7) = 6", "drop(6) = 0"};
        for (String name : new String[] {"b", "c", "c/d", "d", "e", "b/c/d", "b/x", "b/x/y", "p/q/r/s", "p/q/r", "d/y"}) {
            refused(setup, "promise 21", name, "renameFolder(0, 1)", UNSUPPORTED);
            refused(setup, "promise 21", name, "renameFolder(1, 1)", UNSUPPORTED);
        }
        for (String name : new String[] {"e/y", "b/c", "a/a", "a/x", "a/y", "f", "f/a", "b/y", "e/x", "g", "aa", "d/x"}) {
            runOn(setup, "promise 21", name + ": renameFolder(0, 1) = 2", "wipe() = 0", name + "/x: find() = 0", "wipe()",
                name + "/y/z: find() = 1");
        }
        for (String name : new String[] {"a/x", "a/x/y", "d/y", "e/y", "c/d/e", "p/q/r/s", "b/x", "a/x/z", "c"}) {
            refused(setup, "promise 21", name, "renameFolder(1, 2)", UNSUPPORTED);
        }
        for (String name : new String[] {"a", "a/y/z", "b", "p/q/r", "d", "f", "a/z", "e", "e/y/z"}) {
            runOn(setup, "promise 21", name + ": renameFolder(1, 2) = 1", name + "/z: find() = 1", "a/x: find()", "wipe()");
        }
        runOn(setup, "a folder to the name that it has", "a: renameFolder(1, 1) = 0", "wipe() = 0", "a/x: find() = 0");
        runOn(setup, "three pieces", "e/y/w: renameFolder(5, 3) = 1", "e/y/w/w: find() = 5", "wipe()",
            "a: renameFolder(5, 3) = 1", "a/w: find() = 5");
    }

    // ---- numbers ----

    private static final String[] OF_PART = {"drop(#)", "name(#, 0)", "content(#)", "set(#, 1)", "override(#, 1)", "kind(#)",
        "rename(#)", "renameFolder(#, 1)", "exchange(#, 1)", "exchange(1, #)", "exchange(#, #)", "damageName(#)",
        "damageContent(#, 1)", "isHurt(#)", "mend(#)", "mark(#)", "isInCircle(#)"};

    private static final String[] FROM_PART = {"relate(#, 0, true, 0)", "relate(#, 0, false, 0)", "outer(#, 0, 1)"};

    /** "if there is no such part": ahead of the first, behind the last that was made, beyond all, and dropped ones. */
    private static void numbersOfParts() {
        int[] none = {-1, -2, 0, 1, 29, 30, MIN, MAX};
        int[] notInTown = {-1, -2, 4, 6, 29, 30, 31, 32, MIN, MAX};
        int[] notInFull = {-1, -2, 30, 31, 32, MIN, MAX};
        int[] notInWorn = {-1, -2, 5, 29, 30, MIN, MAX};
        for (String call : OF_PART) {
            refuseNumbers(new String[0], call, none);
            refuseNumbers(TOWN, call, notInTown);
            refuseNumbers(FULL, call, notInFull);
            refuseNumbers(WORN, call, notInWorn);
        }
        for (String call : FROM_PART) {
            refuseNumbers(new String[0], call, new int[] {-2, 0, 29, 30, MIN, MAX});
            refuseNumbers(TOWN, call, new int[] {-2, 4, 6, 29, 30, MIN, MAX});
            refuseNumbers(WORN, call, new int[] {-2, 5, 29, 30, MIN, MAX});
        }
        run("-1 is the container", "a: relate(-1, 0, false, 0) = 0", "a: relate(-1, 0, true, 0) = 1", "outer(-1, 0, 1) = 2",
            "of(0, f) = -1", "of(1, f) = -1", "of(2, f) = -1");
        runOn(FULL, "the first and the last part", "content(0) = 0", "content(29) = 2900", "name(29, 2) = 9",
            "name(0, 0) = a", "isHurt(29) = false", "mark(29) = " + markOf("z/9", 2900), "isInCircle(29) = false",
            "set(29, 4) = 2900", "damageContent(29, 5) = 4", "mend(29) = 0", "override(29, 3) = -1", "kind(29) = 3",
            "exchange(29, 0) = 2", "content(0) = 5", "content(29) = 0", "u: rename(29) = 1", "w: damageName(29) = 1",
            "v: renameFolder(28, 1) = 9", "drop(29) = 0", "drop(0) = 1");
    }

    private static void refuseNumbers(String[] setup, String call, int[] numbers) {
        for (int number : numbers) {
            refused(setup, "no such part", "new", call.replace("#", "" + number), INDEX);
        }
    }

    private static final String[] OF_RELATION = {"unrelate(#)", "target(#)", "of(#, f)", "of(#, q)", "written(#, 0)",
        "written(#, -1)", "outside(#)", "damageRelation(#)"};

    /** "if there is no such relation": ahead, behind, beyond all, taken away, and gone with a part. */
    private static void numbersOfRelations() {
        int[] none = {-1, 0, 59, 60, MIN, MAX};
        int[] notInTown = {-1, 6, 7, 10, 59, 60, MIN, MAX};
        int[] notInWorn = {-1, 0, 6, 35, 58, 59, 60, 61, MIN, MAX};
        for (String call : OF_RELATION) {
            for (int number : none) {
                refused(new String[0], "no such relation", "new", call.replace("#", "" + number), INDEX);
            }
            for (int number : notInTown) {
                refused(TOWN, "no such relation", "new", call.replace("#", "" + number), INDEX);
            }
            for (int number : notInWorn) {
                refused(WORN, "no such relation", "new", call.replace("#", "" + number), INDEX);
            }
        }
        runOn(FULL, "the first and the last relation", "of(0, f) = -1", "of(59, f) = 29", "target(0) = 0",
            "target(29) = 29", "target(59) = " + ELEMENT, "written(59, 0) = y", "of(59, u) = 1", "outside(49) = 49",
            "z/9: damageRelation(59) = false", "target(59) = 29", "unrelate(59) = 29", "unrelate(0) = 0",
            "relations(a) = 58");
    }

    // ---- places ----

    /** "the place, from 0", "if there is none"; "the index, from 0". */
    private static void places() {
        for (int place : new int[] {-1, 9, 35, 36, 40, MIN, MAX}) {
            refused(TOWN, "promise 6", "new", "name(0, " + place + ")", ELEMENT);
        }
        for (int place : new int[] {-1, 1, MIN, MAX}) {
            refused(TOWN, "promise 6", "", "name(3, " + place + ")", ELEMENT);
            refused(TOWN, "promise 18", "", "written(2, " + place + ")", ELEMENT);
        }
        for (int place : new int[] {-1, 0, 1, MIN, MAX}) {
            refused(TOWN, "promise 18", "", "written(5, " + place + ")", ELEMENT);
        }
        for (int index : new int[] {-1, 3, 4, 29, 30, 31, MIN, MAX}) {
            refused(TOWN, "promise 32", "new", "walkAt(" + index + ")", ELEMENT);
        }
        for (int index : new int[] {-1, 0, 1, MIN, MAX}) {
            refused(new String[0], "promise 32", "", "walkAt(" + index + ")", ELEMENT);
            refused(WORN, "promise 32", "", "walkAt(" + index + ")", ELEMENT);
        }
        for (int index : new int[] {-1, 30, 31, MIN, MAX}) {
            refused(FULL, "promise 32", "", "walkAt(" + index + ")", ELEMENT);
        }
        runOn(TOWN, "the first and the last place", "name(0, 0) = a", "name(0, 8) = x", "name(3, 0) = g", "written(2, 0) = e",
            "written(0, 8) = x", "walkAt(0) = 0", "walkAt(1) = 3", "walkAt(2) = 1", "walked() = 3");
        runOn(FULL, "the first and the last index", "walkAt(0) = 0", "walkAt(29) = 29", "walkAt(19) = 19");
    }

    // ---- sorts, kinds, steps, pieces, letters ----

    private static void sorts() {
        for (int sort : new int[] {-1, 10, MIN, MAX}) {
            refused(TOWN, "a sort is 0 to 9", "new", "relate(0, " + sort + ", true, 0)", ARGUMENT);
            refused(TOWN, "a sort is 0 to 9", "new", "relate(-1, " + sort + ", false, 0)", ARGUMENT);
            refused(TOWN, "a sort is 0 to 9", "new", "outer(-1, " + sort + ", 0)", ARGUMENT);
            refused(TOWN, "a sort is 0 to 9", "new", "outer(3, " + sort + ", 0)", ARGUMENT);
        }
        for (int sort = 0; sort <= 9; sort++) {
            run("a sort is 0 to 9", "a: relate(-1, " + sort + ", true, 0) = 0", "a: relate(-1, " + sort + ", false, 0) = 1",
                "outer(-1, " + sort + ", " + MAX + ") = 2", "of(0, s) = " + sort, "of(1, s) = " + sort, "of(2, s) = " + sort,
                "outside(2) = " + MAX, "outer(-1, 0, " + MIN + ") = 3", "outside(3) = " + MIN);
        }
    }

    private static void kinds() {
        for (int kind : new int[] {-2, 10, MIN, MAX}) {
            refused(TOWN, "kinds are 0 to 9", "x", "ending(" + kind + ")", ARGUMENT);
            refused(TOWN, "kinds are 0 to 9", "zz", "ending(" + kind + ")", ARGUMENT);
            refused(TOWN, "kinds are 0 to 9", "x", "override(0, " + kind + ")", ARGUMENT);
            refused(TOWN, "kinds are 0 to 9", "x", "override(3, " + kind + ")", ARGUMENT);
        }
        for (int part : new int[] {1, 5}) {
            refused(TOWN, "others have none", "x", "kind(" + part + ")", ELEMENT);
        }
        String[] setup = {"a.x: part(1) = 0", "x: part(2) = 1"};
        for (int kind = 0; kind <= 9; kind++) {
            int other = 9 - kind;
            runOn(setup, "kinds are 0 to 9", "x: ending(" + kind + ") = -1", "wipe() = 0", "kind(0) = " + kind,
                "kind(1) = " + ELEMENT, "override(0, " + other + ") = -1", "override(1, " + kind + ") = -1", "kind(0) = " + other,
                "kind(1) = " + kind, "x: ending(-1) = " + kind, "wipe() = 0", "kind(0) = " + other,
                "override(0, -1) = " + other, "kind(0) = " + ELEMENT, "override(0, -1) = -1", "x: ending(-1) = -1",
                "override(1, -1) = " + kind, "kind(1) = " + ELEMENT);
        }
    }

    /** "1 to 6 small letters and digits"; "what is behind the last dot of its last piece, if there is one". */
    private static void endings() {
        for (String text : new String[] {"", "abcdefg", ".", "a.b", ".a", "a.", "/", "a/b", "abcdef.", "/abcdef", forty()}) {
            refused(TOWN, "promise 10", text, "ending(0)", UNSUPPORTED);
            refused(TOWN, "promise 10", text, "ending(-1)", UNSUPPORTED);
        }
        for (String text : new String[] {"a", "z", "0", "9", "ab", "abcde", "abcdef", "012345", "zzzzzz", "999999", "a0b1c2"}) {
            run("promise 10", text + ": ending(9) = -1", "wipe() = 0", "0." + text + ": part(1) = 0", "kind(0) = 9",
                "0/" + "0." + text + ": rename(0) = 0", "kind(0) = 9", text + ": rename(0) = 0", "kind(0) = " + ELEMENT,
                text + ": ending(0) = 9");
        }
        run("behind the last dot of its last piece", "x: ending(0) = -1", "y: ending(9) = -1", "a.x.y: part(1) = 0", "kind(0) = 9",
            "a.y.x: rename(0) = 0", "kind(0) = 0", "a.x/b: rename(0) = 0", "kind(0) = " + ELEMENT, "a.x/b.y: rename(0) = 0",
            "kind(0) = 9", "a.y/b.y/c.y/d.x: rename(0) = 0", "kind(0) = 0", "a.y/b.y/c.y/d: rename(0) = 0",
            "kind(0) = " + ELEMENT, "a.xy: rename(0) = 0", "kind(0) = " + ELEMENT, "x: rename(0) = 0", "kind(0) = " + ELEMENT,
            "y.y.y.x: damageName(0) = 0", "kind(0) = 0");
        run("an ending is taken whole", "abcdef: ending(1) = -1", "abcde: ending(2) = -1", "bcdef: ending(3) = -1",
            "0: ending(4) = -1", "00: ending(5) = -1", "z.abcdef: part(1) = 0", "z.abcde: part(1) = 1", "z.bcdef: part(1) = 2",
            "z.0: part(1) = 3", "z.00: part(1) = 4", "z.000: part(1) = 5", "kind(0) = 1", "kind(1) = 2", "kind(2) = 3",
            "kind(3) = 4", "kind(4) = 5", "kind(5) = " + ELEMENT);
    }

    /** "how many steps up, 0 to 3; 0 if it is not relative". */
    private static void steps() {
        for (int up : new int[] {-1, 4, MIN, MAX}) {
            refused(TOWN, "promise 13", "new", "relate(0, 0, true, " + up + ")", ARGUMENT);
            refused(TOWN, "promise 13", "new", "relate(-1, 9, true, " + up + ")", ARGUMENT);
        }
        for (int up : new int[] {-1, 1, 2, 3, 4, MIN, MAX}) {
            refused(TOWN, "promise 13", "new", "relate(0, 0, false, " + up + ")", ARGUMENT);
            refused(TOWN, "promise 13", "new", "relate(-1, 9, false, " + up + ")", ARGUMENT);
        }
        for (int up = 0; up <= 3; up++) {
            run("promise 13", "a: relate(-1, 0, true, " + up + ") = 0", "of(0, u) = " + up, "of(0, r) = 1", "wipe() = 0");
        }
        run("promise 17", "a: relate(-1, 0, false, 0) = 0", "of(0, u) = 0", "of(0, r) = 0", "of(0, b) = 1", "of(0, o) = 0",
            "outer(-1, 0, 3) = 1", "of(1, u) = 0", "of(1, r) = 0", "of(1, b) = 0", "of(1, o) = 1");
    }

    /** "it is broken if there is none, or the steps go above the top"; "The container's folder is empty." */
    private static void stepsUpToTheTop() {
        String[] names = {"a", "b/a", "c/b/a", "d/c/b/a"};
        for (int folders = 0; folders <= 3; folders++) {
            String[] setup = {"top: part(1) = 0", names[folders] + ": part(2) = 1"};
            for (int up = 0; up <= 3; up++) {
                boolean leads = up == folders;
                runOn(setup, "the steps go above the top", "top: relate(1, 0, true, " + up + ") = 0",
                    "target(0) = " + (leads ? 0 : ELEMENT), "of(0, b) = " + (leads ? 0 : 1),
                    "relations(b) = " + (leads ? 0 : 1), "relations(i) = " + (leads ? 1 : 0),
                    names[folders] + ": relate(1, 0, true, " + up + ") = 1", "target(1) = " + (leads ? 1 : ELEMENT),
                    "unrelate(0) = " + (leads ? 0 : -1), "isSound() = true");
            }
        }
        run("the container's folder is empty", "a: part(1) = 0", "b/a: part(2) = 1", "a: relate(-1, 0, true, 0) = 0",
            "b/a: relate(-1, 0, true, 0) = 1", "a: relate(-1, 0, true, 1) = 2", "b/a: relate(-1, 0, true, 3) = 3",
            "target(0) = 0", "target(1) = 1", "target(2) = " + ELEMENT, "target(3) = " + ELEMENT, "relations(b) = 2");
    }

    /** "from the folder of the part from which it goes": no other folder, and no name that is only alike. */
    private static void foldersAlike() {
        run("another folder of the same length", "a/x: part(1) = 0", "b/y: part(2) = 1", "a.y: part(3) = 2", "aay: part(4) = 3",
            "y: relate(0, 0, true, 0) = 0", "target(0) = " + ELEMENT, "y: relate(1, 0, true, 0) = 1", "target(1) = 1",
            "a/y: part(5) = 4", "target(0) = 4", "y: relate(0, 0, true, 1) = 2", "target(2) = " + ELEMENT,
            "y: relate(0, 0, false, 0) = 3", "target(3) = " + ELEMENT, "y: part(6) = 5", "target(2) = 5", "target(3) = 5",
            "target(0) = 4");
        run("folders that differ in one sign", "a/b/x: part(1) = 0", "c/b/y: part(2) = 1", "a/c/y: part(3) = 2",
            "a/bb/y: part(4) = 3", "c/b/y: relate(0, 0, true, 2) = 0", "c/y: relate(0, 0, true, 1) = 1",
            "a/bb/y: relate(0, 0, true, 2) = 2", "a/b/z: rename(0) = 3", "of(0, u) = 2", "written(0, 0) = c", "written(0, 4) = y",
            "of(1, u) = 1", "written(1, 0) = c", "written(1, 2) = y", "of(2, u) = 1", "written(2, 1) = b", "written(2, 3) = y",
            "target(0) = 1", "target(1) = 2", "target(2) = 3");
    }

    /** "1 to 3, fewer than the name has". */
    private static void pieces() {
        String[] setup = {"a: part(1) = 0", "b/a: part(2) = 1", "c/b/a: part(3) = 2", "d/c/b/a: part(4) = 3"};
        for (int part = 0; part <= 3; part++) {
            for (int pieces = -1; pieces <= 5; pieces++) {
                String call = "renameFolder(" + part + ", " + pieces + ")";
                if (pieces >= 1 && pieces <= part) {
                    runOn(setup, "promise 21", "new: " + call + " = 1", "wipe() = 0", "parts() = 4",
                        "meanPieces() = " + (10 + 1 - pieces) / 4.0);
                } else {
                    refused(setup, "promise 21", "new", call, ARGUMENT);
                    refused(setup, "promise 21", "", call, ARGUMENT);
                }
            }
            for (int pieces : new int[] {MIN, MAX}) {
                refused(setup, "promise 21", "new", "renameFolder(" + part + ", " + pieces + ")", ARGUMENT);
            }
        }
    }

    /** "if there is no such thing", "if there is no such letter": every sign there is. */
    private static void letters() {
        Archiveparts x = made(TOWN).x;
        int calls = 0;
        for (int i = 0; i <= Character.MAX_VALUE; i++) {
            if (calls > CALLS - 250) {
                x = made(TOWN).x;
                calls = 0;
            }
            char letter = (char) i;
            calls += 2;
            Object got;
            try {
                x.of(5, letter);
                got = "answer";
            } catch (RuntimeException e) {
                got = thrown(e);
            }
            check("promise 17", "of " + i, got, "fsrubo".indexOf(letter) >= 0 ? "answer" : ARGUMENT);
            try {
                x.relations(letter);
                got = "answer";
            } catch (RuntimeException e) {
                got = thrown(e);
            }
            check("promise 30", "relations " + i, got, "aiob".indexOf(letter) >= 0 ? "answer" : ARGUMENT);
        }
        for (char letter : "AFaxiu1- ".toCharArray()) {
            if (letter != 'u') {
                refused(TOWN, "promise 17", "new", "of(0, " + letter + ")", ARGUMENT);
            }
            if (letter != 'a' && letter != 'i') {
                refused(TOWN, "promise 30", "new", "relations(" + letter + ")", ARGUMENT);
            }
        }
    }

    // ---- exceptions ----

    /** The refused calls that no bound of a number tells. */
    private static void refusedOthers() {
        for (int relation : new int[] {3, 4, 5, 9}) {
            refused(TOWN, "promise 16: broken or outer", "new", "target(" + relation + ")", ELEMENT);
        }
        for (int relation : new int[] {0, 1, 3, 9}) {
            refused(TOWN, "promise 19: inner", "new", "outside(" + relation + ")", ELEMENT);
        }
        for (int part : new int[] {0, 1, 3}) {
            refused(TOWN, "promise 27: not hurt", "new", "mend(" + part + ")", UNSUPPORTED);
            refused(TOWN, "promise 22: both the same", "new", "exchange(" + part + ", " + part + ")", ARGUMENT);
        }
        refused(TOWN, "promise 25: outer", "new", "damageRelation(5)", UNSUPPORTED);
        refused(TOWN, "promise 25: outer and no name", "", "damageRelation(5)", UNSUPPORTED);
        refused(FULL, "promise 22: both the same", "new", "exchange(29, 29)", ARGUMENT);
        refused(new String[0], "promise 38", "new", "brokenShare()", ARITHMETIC);
        refused(new String[0], "promise 39", "new", "meanPieces()", ARITHMETIC);
        refused(new String[] {"a: part(1) = 0"}, "promise 38", "", "brokenShare()", ARITHMETIC);
        refused(new String[] {"outer(-1, 0, 1) = 0"}, "promise 39", "", "meanPieces()", ARITHMETIC);
    }

    /** "If several conditions of a method apply, the exception that is listed first is thrown." */
    private static void whichExceptionFirst() {
        String sentence = "the exception that is listed first";
        for (String name : new String[] {"", "a//b", "a", "z", "z/0/1", "b/c"}) {
            refused(FULL, sentence, name, "part(1)", UNSUPPORTED);
        }
        refused(FULL, sentence, "new", "part(1)", STATE);
        refused(FULL, sentence, "new", "relate(0, 0, true, 0)", STATE);
        refused(FULL, sentence, "", "relate(0, 0, true, 0)", UNSUPPORTED);
        refused(FULL, sentence, "", "relate(-1, 10, false, 0)", ARGUMENT);
        refused(FULL, sentence, "", "relate(0, 0, false, 1)", ARGUMENT);
        refused(FULL, sentence, "", "relate(0, 0, true, 4)", ARGUMENT);
        refused(FULL, sentence, "new", "relate(0, -1, true, 0)", ARGUMENT);
        refused(FULL, sentence, "", "relate(30, -1, true, 4)", INDEX);
        refused(FULL, sentence, "new", "relate(-2, 0, false, 0)", INDEX);
        refused(FULL, sentence, "", "relate(-2, 0, false, 0)", INDEX);
        refused(FULL, sentence, "new", "outer(0, 0, 1)", STATE);
        refused(FULL, sentence, "", "outer(-1, 10, 1)", ARGUMENT);
        refused(FULL, sentence, "", "outer(30, 0, 1)", INDEX);
        refused(FULL, sentence, "", "outer(-2, -1, 1)", INDEX);
        refused(TOWN, sentence, "", "relate(4, 10, true, 4)", INDEX);
        refused(TOWN, sentence, "", "relate(0, 10, true, 0)", ARGUMENT);
        refused(TOWN, sentence, "", "relate(0, 0, false, 3)", ARGUMENT);
        refused(TOWN, sentence, "", "outer(4, 10, 1)", INDEX);
        refused(TOWN, sentence, "", "name(4, -1)", INDEX);
        refused(TOWN, sentence, "", "name(6, 99)", INDEX);
        refused(TOWN, sentence, "", "written(6, -1)", INDEX);
        refused(TOWN, sentence, "", "written(10, 99)", INDEX);
        refused(TOWN, sentence, "", "of(6, q)", INDEX);
        refused(TOWN, sentence, "", "ending(10)", ARGUMENT);
        refused(TOWN, sentence, "a.b", "ending(-2)", ARGUMENT);
        refused(TOWN, sentence, "x", "override(4, 10)", INDEX);
        refused(TOWN, sentence, "x", "override(-1, -2)", INDEX);
        for (String name : new String[] {"", "a/b/e", "g/h", "a/b"}) {
            refused(TOWN, sentence, name, "rename(4)", INDEX);
            refused(TOWN, sentence, name, "damageName(4)", INDEX);
            refused(TOWN, sentence, name, "renameFolder(4, 1)", INDEX);
            refused(TOWN, sentence, name, "renameFolder(4, 0)", INDEX);
            refused(TOWN, sentence, name, "renameFolder(3, 1)", ARGUMENT);
            refused(TOWN, sentence, name, "renameFolder(0, 4)", ARGUMENT);
        }
        refused(TOWN, sentence, "a//b", "damageRelation(7)", INDEX);
        refused(TOWN, sentence, "", "exchange(4, 4)", INDEX);
        refused(TOWN, sentence, "", "exchange(-1, -1)", INDEX);
        refused(TOWN, sentence, "", "exchange(6, 6)", INDEX);
    }

    // ---- limits ----

    /** "At most 30 parts are ever made, numbered from 0"; "A part can be dropped; its number is not used again." */
    private static void limitOfParts() {
        List<String> lines = new ArrayList<>();
        for (int i = 0; i < 30; i++) {
            lines.add(nameOf(i) + ": part(" + i + ") = " + i);
            lines.add("parts() = " + (i % 3 + 1));
            if (i % 3 == 2) {
                lines.add("drop(" + i + ") = 0");
                lines.add("drop(" + (i - 1) + ") = 0");
                lines.add("drop(" + (i - 2) + ") = 0");
            }
        }
        String[] dropped = lines.toArray(new String[0]);
        runOn(dropped, "promise 4: dropped parts count", "parts() = 0", "new: part(1) = " + STATE, "wipe() = 3",
            "part(1) = " + UNSUPPORTED, "meanPieces() = " + ARITHMETIC, "checksum() = 7");
        refused(dropped, "promise 4: if 30 were made", "new", "part(1)", STATE);
        refused(dropped, "promise 4: if 30 were made", "a", "part(1)", STATE);
        refused(WORN, "promise 4: if 30 were made", "f", "part(1)", STATE);
        refused(WORN, "promise 4: if 30 were made", "z/9", "part(1)", STATE);
        refused(WORN, "promise 4: if 30 were made", "a", "part(1)", UNSUPPORTED);
        run("promise 4: a refused part takes no number", "a..b: part(1) = " + UNSUPPORTED, "wipe() = 4", "a: part(1) = 0",
            "a: part(1) = " + UNSUPPORTED, "wipe() = 1", "b: part(1) = 1", "drop(1) = 0", "b: part(1) = 2");
    }

    /** "At most 60 relations are ever made, numbered from 0". */
    private static void limitOfRelations() {
        List<String> lines = new ArrayList<>();
        lines.add("a: part(1) = 0");
        for (int i = 0; i < 60; i++) {
            lines.add(i % 2 == 0 ? "a: relate(-1, 0, true, 0) = " + i : "outer(-1, 0, 5) = " + i);
            lines.add("unrelate(" + i + ") = " + (i % 2 == 0 ? 0 : -1));
        }
        String[] taken = lines.toArray(new String[0]);
        runOn(taken, "promise 13: relations that are taken away count", "relations(a) = 0", "a: relate(-1, 0, true, 0) = " + STATE,
            "wipe() = 1", "outer(-1, 0, 5) = " + STATE, "brokenShare() = " + ARITHMETIC,
            "checksum() = " + further(further(BigInteger.valueOf(7), 1), markOf("a", 1)));
        refused(taken, "promise 13: if 60 were made", "a", "relate(0, 0, true, 0)", STATE);
        refused(taken, "promise 14: if 60 were made", "a", "outer(0, 0, 1)", STATE);
        refused(WORN, "promise 13: if 60 were made", "a", "relate(0, 0, true, 0)", STATE);
        refused(WORN, "promise 14: if 60 were made", "", "outer(-1, 9, 1)", STATE);
        run("promise 13: a refused relation takes no number", "a..b: relate(-1, 0, true, 0) = " + UNSUPPORTED, "wipe() = 4",
            "outer(-1, 10, 1) = " + ARGUMENT, "outer(-1, 9, 1) = 0", "unrelate(0) = -1", "outer(-1, 9, 1) = 1",
            "a: relate(-1, 0, false, 0) = 2");
        lines.clear();
        lines.add("a: part(1) = 0");
        for (int i = 0; i < 60; i++) {
            lines.add("outer(0, 0, 5) = " + i);
        }
        lines.add("drop(0) = 0");
        runOn(lines.toArray(new String[0]), "promise 14: relations that went with a part count", "relations(a) = 0",
            "outer(-1, 0, 5) = " + STATE, "a: relate(-1, 0, true, 0) = " + STATE, "target(59) = " + INDEX,
            "brokenShare() = " + ARITHMETIC, "checksum() = 7");
    }

    // ---- the empty ----

    /** "Creates a container without parts." */
    private static void nothingThere() {
        run("promise 1", "wipe() = 0", "parts() = 0", "relations(a) = 0", "relations(i) = 0", "relations(o) = 0",
            "relations(b) = 0", "walked() = 0", "orphans() = 0", "circles() = 0", "checksum() = 7", "isSound() = true",
            "brokenShare() = " + ARITHMETIC, "meanPieces() = " + ARITHMETIC, "walkAt(0) = " + ELEMENT, "find() = " + UNSUPPORTED,
            "below() = " + UNSUPPORTED, "part(0) = " + UNSUPPORTED, "ending(0) = " + UNSUPPORTED, "a: find() = -1",
            "below() = 0", "wipe() = 1", "type(a) = 1");
        run("relations without parts", "a: relate(-1, 0, true, 0) = 0", "outer(-1, 0, 1) = 1", "relations(a) = 2",
            "relations(b) = 1", "relations(o) = 1", "relations(i) = 0", "brokenShare() = 0.5", "walked() = 0",
            "orphans() = 0", "circles() = 0", "checksum() = " + (31 * (31 * 7 - 1) - 1), "isSound() = true");
    }

    private static void onePartAlone() {
        run("one part", "a/b: part(0) = 0", "parts() = 1", "orphans() = 1", "walked() = 0", "circles() = 0",
            "isInCircle(0) = false", "meanPieces() = 2.0", "brokenShare() = " + ARITHMETIC, "a: below() = 1", "wipe() = 1",
            "a/b: below() = 0", "find() = 0", "wipe() = 3", "a/b/c: below() = 0", "find() = -1", "wipe() = 5",
            "aa: below() = 0", "wipe() = 2", "exchange(0, 0) = " + ARGUMENT, "exchange(0, 1) = " + INDEX,
            "mend(0) = " + UNSUPPORTED, "damageContent(0, 1) = 0", "mend(0) = 0", "isSound() = true",
            "outer(0, 0, 0) = 0", "brokenShare() = 0.0", "drop(0) = 0", "relations(a) = 0", "parts() = 0");
    }

    /** "Relations of a part that is dropped are gone; those to it stay, broken." */
    private static void allDropped() {
        List<String> lines = new ArrayList<>();
        for (int i = 0; i < 30; i++) {
            lines.add("drop(" + i + ") = " + (i == 0 ? 1 : 0));
        }
        runOn(FULL, "promise 5: each takes with it what led to the next one", lines.toArray(new String[0]));
        lines.clear();
        for (int i = 29; i >= 0; i--) {
            lines.add("drop(" + i + ") = 1");
        }
        lines.add("relations(a) = 1");
        lines.add("relations(b) = 1");
        lines.add("brokenShare() = 1.0");
        lines.add("meanPieces() = " + ARITHMETIC);
        lines.add("checksum() = 216");
        lines.add("walked() = 0");
        lines.add("orphans() = 0");
        lines.add("circles() = 0");
        lines.add("parts() = 0");
        lines.add("isSound() = true");
        lines.add("unrelate(0) = -1");
        lines.add("brokenShare() = " + ARITHMETIC);
        lines.add("checksum() = 7");
        runOn(FULL, "promise 5", lines.toArray(new String[0]));
        run("promise 5: its own relations are not broken but gone", "a: part(1) = 0", "a: relate(0, 0, true, 0) = 0",
            "a: relate(0, 0, false, 0) = 1", "a: relate(-1, 0, false, 0) = 2", "b: relate(-1, 0, false, 0) = 3",
            "drop(0) = 1", "relations(a) = 2", "of(0, f) = " + INDEX, "of(1, f) = " + INDEX, "of(2, b) = 1", "drop(0) = " + INDEX,
            "a: part(2) = 1", "target(2) = 1", "drop(1) = 1", "a: relate(-1, 0, false, 0) = 4", "unrelate(2) = -1");
    }

    // ---- the wrap-around ----

    /** "then 31 times itself plus the content, as an int": up to the ends of the ints and over them. */
    private static void wrappingMarks() {
        for (String name : new String[] {"a", "z9.z/0", "abcdefgh/ijklmnop/qrstuvwx/yz012345"}) {
            int bare = markOf(name, 0);
            int toMax = MAX - bare;
            int toMin = toMax + 1;
            run("a mark is an int", name + ": part(" + toMax + ") = 0", "mark(0) = " + MAX, "set(0, " + toMin + ") = " + toMax,
                "mark(0) = " + MIN, "set(0, " + -bare + ") = " + toMin, "mark(0) = 0", "set(0, " + (-bare - 1) + ") = " + -bare,
                "mark(0) = -1", "isHurt(0) = false", "damageContent(0, " + -bare + ") = " + (-bare - 1), "isHurt(0) = true",
                "mark(0) = -1", "mend(0) = 0", "mark(0) = 0", "isHurt(0) = false");
            for (int content : new int[] {MIN, MIN + 1, -1, 0, 1, MAX - 1, MAX}) {
                run("a mark is an int", name + ": part(" + content + ") = 0", "mark(0) = " + markOf(name, content),
                    "isHurt(0) = false", "content(0) = " + content);
            }
        }
        run("a mark is over the name and the content", "a: part(0) = 0", "mark(0) = " + 31 * (31 * 7 + 'a'),
            "b: part(0) = 1", "mark(1) = " + 31 * (31 * 7 + 'b'), "a/b: rename(0) = 0", "mark(0) = " + markOf("a/b", 0),
            "c: damageName(1) = 0", "mark(1) = " + markOf("b", 0), "isHurt(1) = true", "damageContent(1, -31) = 0",
            "isHurt(1) = false", "set(1, 0) = -31", "mark(1) = " + markOf("c", 0));
    }

    private static void wrappingContents() {
        int[] ends = {MIN, -1, 0, 1, MAX};
        for (int first : ends) {
            for (int second : ends) {
                run("a content is an int", "a: part(" + first + ") = 0", "content(0) = " + first,
                    "set(0, " + second + ") = " + first, "content(0) = " + second,
                    "damageContent(0, " + first + ") = " + second, "isHurt(0) = " + (first != second),
                    "content(0) = " + first, "b: part(" + second + ") = 1", "exchange(0, 1) = 0",
                    "content(0) = " + second, "content(1) = " + first, "isHurt(0) = false",
                    "mark(0) = " + markOf("a", second), "mark(1) = " + markOf("b", first),
                    "outer(0, 0, " + first + ") = 0", "outside(0) = " + first);
            }
        }
    }

    /** The sum of a full container goes over the ends of the longs many times. */
    private static void wrappingChecksum() {
        for (int content : new int[] {MIN, -1, 0, 1, MAX}) {
            List<String> lines = new ArrayList<>();
            BigInteger sum = BigInteger.valueOf(7);
            for (int i = 0; i < 30; i++) {
                lines.add(nameOf(i) + ": part(" + content + ") = " + i);
                sum = further(further(sum, content), markOf(nameOf(i), content));
                lines.add("checksum() = " + sum.longValue());
            }
            for (int i = 0; i < 60; i++) {
                lines.add(i < 40 ? (char) ('a' + i % 22) + ": relate(-1, 0, false, 0) = " + i : "outer(29, 0, " + content + ") = " + i);
                sum = further(sum, i < 40 && i % 22 < 20 ? i % 22 : -1);
                lines.add("checksum() = " + sum.longValue());
            }
            run("promise 37", lines.toArray(new String[0]));
        }
        run("promise 37: what is kept, not what is right", "a: part(1) = 0", "damageContent(0, -2) = 1",
            "checksum() = " + further(further(BigInteger.valueOf(7), -2), markOf("a", 1)));
        BigInteger sum = further(further(BigInteger.valueOf(7), 5), markOf("a/b/c/d.x", 5));
        sum = further(further(sum, -6), markOf("a/b/e", -6));
        sum = further(further(sum, 8), markOf("a/f.y", MAX));
        sum = further(further(sum, MIN), markOf("g", MIN));
        sum = further(further(sum, 0), markOf("k/l", 0));
        for (int led : new int[] {0, 1, 1, -1, -1, -1, 3, -1}) {
            sum = further(sum, led);
        }
        runOn(TOWN, "promise 37", "checksum() = " + sum.longValue());
    }

    // ---- the full ----

    private static void fullWalk() {
        runOn(FULL, "a full walk", "walked() = 30", "orphans() = 0", "circles() = 0", "walkAt(0) = 0", "walkAt(29) = 29",
            "walkAt(30) = " + ELEMENT, "unrelate(29) = 29", "walked() = 29", "orphans() = 1", "walkAt(29) = " + ELEMENT,
            "walkAt(28) = 28", "x: damageRelation(50) = true", "z/0: damageRelation(59) = false", "circles() = 0",
            "unrelate(0) = 0", "walked() = 0", "orphans() = 30", "walkAt(0) = " + ELEMENT);
        List<String> lines = new ArrayList<>();
        for (int i = 0; i < 30; i++) {
            lines.add(nameOf(i) + ": part(0) = " + i);
        }
        for (int i = 29; i >= 0; i--) {
            lines.add(nameOf(i) + ": relate(-1, 0, false, 0) = " + (29 - i));
        }
        for (int i = 0; i < 30; i++) {
            lines.add("walkAt(" + i + ") = " + (29 - i));
        }
        for (int i = 0; i < 30; i++) {
            lines.add(nameOf(i) + ": relate(" + i + ", 0, false, 0) = " + (30 + i));
        }
        lines.add("circles() = 30");
        lines.add("isInCircle(0) = true");
        lines.add("isInCircle(29) = true");
        lines.add("relations(i) = 60");
        lines.add("brokenShare() = 0.0");
        run("a walk from the container alone, and 30 circles", lines.toArray(new String[0]));
    }

    private static void fullCounts() {
        runOn(FULL, "a full container", "parts() = 30", "relations(a) = 60", "relations(i) = 30", "relations(o) = 20",
            "relations(b) = 10", "brokenShare() = " + 10.0f / 60.0f, "meanPieces() = " + 40.0 / 30.0, "z: below() = 10", "find() = -1",
            "wipe() = 1", "z/9: find() = 29", "below() = 0", "wipe() = 3", "a: find() = 0", "wipe() = 1", "isSound() = true");
        List<String> lines = new ArrayList<>();
        for (int i = 0; i < 30; i++) {
            lines.add("damageContent(" + i + ", -1) = " + i * 100);
        }
        for (int i = 0; i < 30; i++) {
            lines.add("mend(" + i + ") = " + (29 - i));
            lines.add("mend(" + i + ") = " + UNSUPPORTED);
        }
        runOn(FULL, "promise 27", lines.toArray(new String[0]));
        lines.clear();
        for (int i = 0; i < 30; i++) {
            lines.add("damageContent(" + i + ", -1) = " + i * 100);
        }
        for (int i = 29; i >= 0; i--) {
            lines.add("mend(" + i + ") = " + i);
        }
        runOn(FULL, "promise 27", lines.toArray(new String[0]));
        lines.clear();
        for (int i = 0; i < 30; i++) {
            lines.add((i < 26 ? "f/" + (char) ('a' + i) : "f/" + i % 10) + ": part(0) = " + i);
        }
        lines.add("f: below() = 30");
        lines.add("meanPieces() = 2.0");
        lines.add("/g/h: renameFolder(29, 1) = 30");
        lines.add("meanPieces() = 4.0");
        lines.add("f/g/h: below() = 30");
        lines.add("wipe() = 5");
        lines.add("f/g: below() = 30");
        lines.add("wipe() = 3");
        lines.add("f/g/h/a: below() = 0");
        lines.add("find() = 0");
        lines.add("wipe() = 7");
        lines.add("f: renameFolder(0, 2) = 30");
        lines.add("f/h/9: find() = 29");
        run("a folder with all parts", lines.toArray(new String[0]));
    }

    /** All 60 relations lead to one part. */
    private static void fullRewritings() {
        List<String> lines = new ArrayList<>();
        lines.add("a: part(1) = 0");
        lines.add("b: part(2) = 1");
        for (int i = 0; i < 60; i++) {
            lines.add("a: relate(" + (i % 3 - 1) + ", 0, " + (i % 2 == 0) + ", 0) = " + i);
        }
        String[] setup = lines.toArray(new String[0]);
        runOn(setup, "all relations", "c: rename(0) = 60", "target(59) = 0", "written(59, 0) = c", "c/d: rename(0) = 60",
            "target(58) = 0", "exchange(0, 1) = 60", "target(59) = 1", "target(0) = 1", "exchange(0, 1) = 60", "target(59) = 0",
            "e: damageName(0) = 60", "relations(b) = 60", "brokenShare() = 1.0", "c/d: damageName(0) = 60", "drop(0) = 40",
            "relations(a) = 40", "brokenShare() = 1.0");
        runOn(setup, "all relations", "c/d: rename(0) = 60", "e: renameFolder(0, 1) = 1", "relations(i) = 60", "written(59, 0) = e",
            "of(58, u) = 0", "unrelate(59) = 0", "f: rename(0) = 59", "g: rename(1) = 10");
    }

    /** Parts that were dropped and relations that are gone stand among the others. */
    private static void wornOut() {
        runOn(WORN, "dropped parts and relations taken away", "parts() = 28", "relations(a) = 55", "relations(i) = 26",
            "relations(o) = 19", "relations(b) = 10", "brokenShare() = " + 10.0f / 55.0f, "meanPieces() = " + 37.0 / 28.0,
            "walked() = 0", "orphans() = 28", "circles() = 0", "z: below() = 9", "wipe() = 1", "target(5) = " + ELEMENT,
            "target(29) = " + ELEMENT, "target(28) = 28", "f: find() = -1", "wipe() = 1", "f: rename(6) = 0", "target(7) = 7",
            "target(5) = 6", "isInCircle(6) = false", "y: renameFolder(28, 1) = 9", "isSound() = true",
            "target(28) = 28", "exchange(28, 4) = 2", "target(28) = 4", "target(4) = 28");
        runOn(WORN, "what was dropped is no more hurt", "damageContent(0, -1) = 0", "damageContent(28, -1) = 2800",
            "damageContent(4, -1) = 400", "drop(4) = 1", "mend(0) = 1", "mend(28) = 0");
    }

    // ---- rewriting ----

    /** "a relative one the fewest steps up and the name that is left from there; one that is both counts once". */
    private static void rewritingBounds() {
        String[] setup = {"a/b/c/d: part(1) = 0", "x: part(2) = 1", "x: relate(0, 0, true, 3) = 0",
            "a/b/c/d: relate(0, 0, true, 3) = 1", "a/b/c/d: relate(1, 0, true, 0) = 2", "x: relate(0, 0, false, 0) = 3",
            "outer(0, 0, 1) = 4"};
        runOn(setup, "the fewest steps", "a/b/c/x: rename(1) = 3", "of(0, u) = 0", "written(0, 0) = x", "written(0, 1) = " + ELEMENT,
            "written(2, 0) = d", "of(2, u) = 0", "target(2) = 0", "of(3, u) = 0", "written(3, 6) = x");
        runOn(setup, "the fewest steps", "a/b/x: rename(1) = 3", "of(0, u) = 1", "written(0, 0) = x", "written(0, 1) = " + ELEMENT);
        runOn(setup, "the fewest steps", "a/x: rename(1) = 3", "of(0, u) = 2", "written(0, 0) = x", "written(0, 1) = " + ELEMENT);
        runOn(setup, "the fewest steps", "y: rename(1) = 3", "of(0, u) = 3", "written(0, 0) = y", "written(0, 1) = " + ELEMENT);
        runOn(setup, "the fewest steps", "a/b/cc/x: rename(1) = 3", "of(0, u) = 1", "written(0, 1) = c", "written(0, 3) = x",
            "written(0, 4) = " + ELEMENT, "of(2, u) = 1", "written(2, 2) = d", "written(2, 3) = " + ELEMENT);
        runOn(setup, "the fewest steps, both counts once", "d: rename(0) = 3", "of(0, u) = 0", "of(1, u) = 0", "written(1, 0) = d",
            "written(1, 1) = " + ELEMENT, "target(0) = 1", "target(1) = 0", "target(2) = 0", "target(3) = 1");
        runOn(setup, "to the same name, written anew", "a/b/c/d: rename(0) = 3", "of(1, u) = 0", "written(1, 0) = d",
            "written(1, 1) = " + ELEMENT, "of(0, u) = 3", "of(2, u) = 0", "target(2) = 0");
        runOn(setup, "a folder, all pieces kept", "q: renameFolder(0, 3) = 1", "of(0, u) = 1", "of(1, u) = 0",
            "written(2, 0) = q", "target(0) = 1", "target(1) = 0", "target(2) = 0");
        runOn(setup, "a content moved to itself and back", "exchange(0, 1) = 4", "target(0) = 0", "of(0, u) = 0", "target(1) = 1",
            "of(1, u) = 3", "target(2) = 1", "written(2, 0) = x", "target(3) = 0", "written(3, 6) = d", "exchange(1, 0) = 4",
            "target(0) = 1", "target(1) = 0", "of(1, u) = 0", "target(2) = 0", "target(3) = 1");
        runOn(setup, "both in one folder", "a/b/c/x: rename(1) = 3", "z: renameFolder(1, 1) = 2", "of(0, u) = 0",
            "written(0, 1) = " + ELEMENT, "of(2, u) = 0", "written(2, 0) = d", "written(2, 1) = " + ELEMENT,
            "target(2) = 0", "written(3, 0) = z");
    }

    /** "What was broken stays as it was written, even if it leads to something then." */
    private static void brokenStays() {
        String[] setup = {"a/b: part(1) = 0", "c: part(2) = 1", "c: relate(0, 0, true, 2) = 0", "d: relate(0, 0, true, 1) = 1",
            "e/f: relate(1, 0, false, 0) = 2", "c: relate(0, 0, true, 0) = 3"};
        runOn(setup, "what was broken stays", "relations(b) = 4", "a/b/c: rename(0) = 0", "of(0, u) = 2", "target(0) = 1",
            "target(1) = " + ELEMENT, "of(1, u) = 1", "of(3, u) = 0", "target(3) = 0", "b: rename(0) = 2",
            "of(0, u) = 0", "target(0) = 1", "target(3) = 0", "written(3, 0) = b", "of(1, u) = 1");
        runOn(setup, "what was broken stays", "e/f: rename(1) = 0", "target(2) = 1", "e/g: rename(1) = 1", "written(2, 2) = g");
        runOn(setup, "what was broken stays", "e: renameFolder(0, 1) = 1", "target(2) = " + ELEMENT, "e/f: rename(0) = 0",
            "target(2) = 0", "g: renameFolder(0, 1) = 1", "written(2, 0) = g", "target(2) = 0", "relations(b) = 3");
        runOn(setup, "what was broken stays", "exchange(0, 1) = 0", "relations(b) = 4", "written(0, 0) = c", "of(0, u) = 2");
        runOn(setup, "a new part can be led to", "d: part(9) = 2", "target(1) = 2", "relations(b) = 3", "drop(2) = 1",
            "relations(b) = 4", "target(1) = " + ELEMENT);
    }

    // ---- damages ----

    /** "A damage changes what is kept and nothing else". */
    private static void damagesChangeNothingElse() {
        String[] setup = {"a/b: part(1) = 0", "c: part(2) = 1", "b: relate(0, 3, true, 0) = 0", "c: relate(0, 0, true, 1) = 1",
            "a/b: relate(1, 0, false, 0) = 2", "e: relate(0, 0, true, 1) = 3", "outer(0, 0, 5) = 4", "override(0, 6) = -1"};
        runOn(setup, "promise 23: the steps go above the top", "b: damageName(0) = 2", "target(0) = 0", "target(1) = " + ELEMENT,
            "target(2) = " + ELEMENT, "of(1, u) = 1", "written(2, 0) = a", "kind(0) = 6", "content(0) = 1",
            "mark(0) = " + markOf("a/b", 1), "isHurt(0) = true", "relations(b) = 3", "a/b: damageName(0) = 2", "isHurt(0) = false",
            "relations(b) = 1");
        runOn(setup, "promise 23: none", "a/b: damageName(0) = 0", "isHurt(0) = false", "wipe() = 0");
        runOn(setup, "promise 23: to none, and to one where it led to none", "e: damageName(1) = 2", "target(3) = 1",
            "target(1) = " + ELEMENT, "isHurt(1) = true", "mend(1) = 0", "mark(1) = " + markOf("e", 2));
        runOn(setup, "promise 24", "damageContent(0, 1) = 1", "isHurt(0) = false", "damageContent(0, 2) = 1", "isHurt(0) = true",
            "mark(0) = " + markOf("a/b", 1), "mend(0) = 0", "content(0) = 2", "mark(0) = " + markOf("a/b", 2));
        runOn(setup, "promise 25", "c: damageRelation(1) = false", "c: damageRelation(3) = false", "target(3) = 1", "of(3, u) = 1",
            "of(3, r) = 1", "of(3, s) = 0", "of(3, f) = 0", "c: damageRelation(0) = true", "of(0, s) = 3", "of(0, u) = 0",
            "c: damageRelation(2) = false", "of(2, r) = 0", "wipe() = 0", "isHurt(0) = false", "isHurt(1) = false",
            "relations(a) = 5");
        runOn(setup, "a renamed part is hurt no more", "damageContent(0, 7) = 1", "a/b: rename(0) = 3", "isHurt(0) = false",
            "damageContent(0, 8) = 7", "a: renameFolder(0, 1) = 0", "isHurt(0) = false", "damageContent(0, 9) = 8",
            "exchange(1, 0) = 3", "isHurt(0) = false", "isHurt(1) = false", "content(1) = 9");
    }

    // ---- looks ----

    /** "two parts at least, or one with a relation to itself"; "greatest". */
    private static void circleBounds() {
        String[] setup = {"a: part(1) = 0", "b: part(2) = 1", "c: part(3) = 2", "d: part(4) = 3"};
        runOn(setup, "a circle", "circles() = 0", "b: relate(0, 0, false, 0) = 0", "circles() = 0", "isInCircle(0) = false",
            "a: relate(1, 0, true, 0) = 1", "circles() = 1", "isInCircle(0) = true", "isInCircle(1) = true",
            "isInCircle(2) = false", "c: relate(1, 0, true, 0) = 2", "circles() = 1", "isInCircle(2) = false",
            "c: relate(2, 0, true, 0) = 3", "circles() = 2", "isInCircle(2) = true", "b: relate(2, 0, true, 0) = 4",
            "circles() = 1", "isInCircle(2) = true", "d: relate(3, 0, true, 0) = 5", "circles() = 2", "unrelate(5) = 3",
            "circles() = 1", "isInCircle(3) = false", "unrelate(1) = 0", "circles() = 1", "isInCircle(0) = false",
            "isInCircle(1) = true", "drop(1) = 2", "circles() = 1", "isInCircle(2) = true", "unrelate(3) = 2", "circles() = 0");
        runOn(setup, "promise 35, asked first", "a: relate(0, 0, true, 0) = 0", "isInCircle(0) = true", "isInCircle(1) = false",
            "unrelate(0) = 0", "isInCircle(0) = false", "b: relate(0, 0, true, 0) = 1", "a: relate(1, 0, true, 0) = 2",
            "isInCircle(1) = true", "drop(0) = 1", "isInCircle(1) = false");
        runOn(setup, "the container is in no circle, an outer relation leads to none", "a: relate(-1, 0, false, 0) = 0",
            "outer(0, 0, 0) = 1", "outer(0, 0, -1) = 2", "circles() = 0", "isInCircle(0) = false", "walked() = 1");
        runOn(FULL, "a circle of all", "a: damageRelation(59) = false", "circles() = 1", "isInCircle(0) = true",
            "isInCircle(29) = true", "unrelate(59) = 0", "circles() = 0", "exchange(0, 29) = 2", "circles() = 1",
            "isInCircle(0) = true", "isInCircle(28) = true", "isInCircle(29) = false", "z/0: damageRelation(29) = false",
            "circles() = 1", "isInCircle(28) = true", "isInCircle(20) = true", "isInCircle(19) = false", "isInCircle(29) = false",
            "0: damageRelation(29) = true", "circles() = 0");
    }

    private static void walkBounds() {
        String[] setup = {"a: part(1) = 0", "b: part(2) = 1", "c: part(3) = 2", "d: part(4) = 3"};
        runOn(setup, "by numbers, then in the order in which parts were come to", "d: relate(1, 0, false, 0) = 0",
            "a: relate(2, 0, false, 0) = 1", "b: relate(-1, 0, false, 0) = 2", "walked() = 2", "orphans() = 2",
            "c: relate(-1, 0, false, 0) = 3", "walked() = 4", "orphans() = 0", "walkAt(0) = 1", "walkAt(1) = 2", "walkAt(2) = 3",
            "walkAt(3) = 0", "walkAt(4) = " + ELEMENT, "b: relate(-1, 0, false, 0) = 4", "b: relate(1, 0, false, 0) = 5",
            "walked() = 4", "walkAt(0) = 1", "unrelate(2) = 1", "walkAt(0) = 2", "walkAt(1) = 1", "walkAt(2) = 0",
            "walkAt(3) = 3", "drop(2) = 1", "walked() = 2", "orphans() = 1", "walkAt(1) = 3", "walkAt(2) = " + ELEMENT);
        runOn(setup, "a circle without the container is of orphans", "b: relate(0, 0, false, 0) = 0",
            "a: relate(1, 0, false, 0) = 1", "walked() = 0", "orphans() = 4", "a: relate(-1, 0, true, 1) = 2", "walked() = 0",
            "a: relate(-1, 0, true, 0) = 3", "walked() = 2", "orphans() = 2");
    }

    /** "An object is used for at most 512 calls": the last of them answers as any other one. */
    private static void lastCall() {
        Box box = made(TOWN);
        while (box.calls < CALLS - 1) {
            box.answer("wipe()");
        }
        perform(box, "the 512th call", "find() = " + UNSUPPORTED);
        box = new Box();
        while (box.calls < CALLS - 4) {
            perform(box, "many refused calls", "drop(0) = " + INDEX);
        }
        perform(box, "the last calls", "a: part(3) = 0");
        perform(box, "the last calls", "content(0) = 3");
        perform(box, "the 512th call", "outer(0, 9, 1) = 0");
        box = new Box();
        String signs = "abcdefghijklmnopqrstuvwxyz0123456789";
        for (int i = 0; i < 36; i++) {
            perform(box, "an ending more", signs.charAt(i) + ": ending(" + i % 10 + ") = -1");
        }
        for (int i = 0; i < 145; i++) {
            perform(box, "an ending more", "" + signs.charAt(i % 36) + "pqrst".charAt(i / 36) + ": ending(" + i % 10 + ") = -1");
        }
        perform(box, "the ending ahead of the last", "t: ending(0) = 9");
        perform(box, "the last ending", "at: ending(0) = 4");
    }
}
