/**
 * A test for each promise of the document: ordinary inputs, the edges that the document names, and wrong
 * inputs. Prints every call whose answer is not the one that is due.
 */
public final class ArchivepartsPromisesTest {
    private static final String ARGUMENT = "throws.IllegalArgumentException";
    private static final String STATE = "throws.IllegalStateException";
    private static final String INDEX = "throws.IndexOutOfBoundsException";
    private static final String UNSUPPORTED = "throws.UnsupportedOperationException";
    private static final String ELEMENT = "throws.NoSuchElementException";
    private static final String ARITHMETIC = "throws.ArithmeticException";

    private interface Call {
        Object run();
    }

    private static int wrong = 0;
    private static int promise = 0;
    private static int checks = 0;
    private static Archiveparts x;

    public static void main(String[] args) {
        typing();
        addingParts();
        limitOfParts();
        dropping();
        namesAndFinding();
        contents();
        kinds();
        manyEndings();
        relating();
        relatingWrongly();
        outerRelations();
        limitOfRelations();
        unrelating();
        targets();
        thingsOfRelations();
        renaming();
        renamingRelative();
        renamingLeavesBroken();
        renamingWrongly();
        renamingFolders();
        renamingFoldersKeepsRelations();
        renamingFoldersToTheSame();
        renamingFoldersWrongly();
        exchanging();
        damagingNames();
        damagingContents();
        damagingRelations();
        mending();
        marks();
        counting();
        walking();
        circles();
        belowFolders();
        checksums();
        shares();
        soundness();
        everythingFull();
        System.out.println(wrong == 0
            ? "promises: all " + checks + " answers are as due"
            : "promises: " + wrong + " of " + checks + " answers are not as due");
        if (wrong != 0) {
            System.exit(1);
        }
    }

    private static void fresh(int ofPromise) {
        promise = ofPromise;
        x = new Archiveparts();
    }

    private static void due(Object want, String what, Call call) {
        Object got;
        try {
            got = call.run();
        } catch (RuntimeException e) {
            got = "throws." + e.getClass().getSimpleName();
        }
        checks++;
        if (!want.equals(got)) {
            wrong++;
            System.out.println("promise " + promise + ": " + what + " answered " + got + ", due is " + want);
        }
    }

    private static void type(String text) {
        x.wipe();
        for (char sign : text.toCharArray()) {
            x.type(sign);
        }
    }

    private static int part(String name, int content) {
        type(name);
        return x.part(content);
    }

    private static int part(String name) {
        return part(name, 0);
    }

    private static int top(int from, String name) {
        type(name);
        return x.relate(from, 0, false, 0);
    }

    private static int relative(int from, int up, String name) {
        type(name);
        return x.relate(from, 0, true, up);
    }

    private static String nameOf(int part) {
        StringBuilder name = new StringBuilder();
        for (int i = 0; i < 50; i++) {
            try {
                name.append(x.name(part, i));
            } catch (java.util.NoSuchElementException e) {
                return name.toString();
            }
        }
        return name.toString();
    }

    /** A relation as it is written: the steps, a colon, and the name. */
    private static String text(int relation) {
        StringBuilder text = new StringBuilder();
        text.append(x.of(relation, 'r') == 1 ? "" + x.of(relation, 'u') : "top").append(':');
        for (int i = 0; i < 50; i++) {
            try {
                text.append(x.written(relation, i));
            } catch (java.util.NoSuchElementException e) {
                return text.toString();
            }
        }
        return text.toString();
    }

    private static int markOf(String name, int content) {
        int mark = 7;
        for (char sign : name.toCharArray()) {
            mark = 31 * mark + sign;
        }
        return 31 * mark + content;
    }

    // ---- promises 1 to 3 ----

    private static void typing() {
        fresh(1);
        due(0, "parts of a new object", () -> x.parts());
        due(0, "relations of a new object", () -> x.relations('a'));
        due(0, "signs of a new object", () -> x.wipe());
        due(7L, "checksum of a new object", () -> x.checksum());
        fresh(2);
        String all = "abcdefghijklmnopqrstuvwxyz0123456789./";
        for (int i = 0; i < all.length(); i++) {
            char sign = all.charAt(i);
            due(i + 1, "type " + sign, () -> x.type(sign));
        }
        String none = "AZ_-`{@[ :;^\0\u00e4\uffff";
        for (char sign : none.toCharArray()) {
            due(ARGUMENT, "type " + (int) sign, () -> x.type(sign));
        }
        due(39, "the next sign", () -> x.type('a'));
        due(40, "the last sign", () -> x.type('b'));
        due(STATE, "one sign too many", () -> x.type('c'));
        due(ARGUMENT, "no sign ahead of too many", () -> x.type('C'));
        promise = 3;
        due(40, "wipe", () -> x.wipe());
        due(0, "wipe again", () -> x.wipe());
        due(1, "type after wiping", () -> x.type('z'));
    }

    // ---- promise 4 ----

    private static void addingParts() {
        fresh(4);
        String[] bad = {"", "/", ".", "a/", "/a", "a//b", "a.", ".a", "a..b", "a/.b", "a./b", "a/b.", "abcdefghi",
            "x/abcdefghi", "abcd.efgh", "a/b/c/d/e", "a/b/c/d/", "a.b/c..d"};
        for (String name : bad) {
            type(name);
            due(UNSUPPORTED, "part '" + name + "'", () -> x.part(1));
            due(name.length(), "signs stay of '" + name + "'", () -> x.wipe());
        }
        due(0, "no part was made", () -> x.parts());
        String[] good = {"a", "abcdefgh", "0.9", "a.b.c.d", "k/l/m/n", "abcdefg1/abcdefg2/abcdefg3/abcdefg4", "x/y.z", "x/y"};
        for (int i = 0; i < good.length; i++) {
            int number = i;
            type(good[i]);
            due(number, "part '" + good[i] + "'", () -> x.part(number * 10));
            due(0, "the name is wiped", () -> x.wipe());
            due(good[i], "its name", () -> nameOf(number));
            due(number * 10, "its content", () -> x.content(number));
        }
        String[] taken = {"a", "a/b", "k", "k/l", "k/l/m", "k/l/m/n", "x", "x/y/z", "abcdefgh/a/b/c"};
        for (String name : taken) {
            type(name);
            due(UNSUPPORTED, "taken '" + name + "'", () -> x.part(1));
        }
        String[] free = {"ab", "k/l/m/o", "k/l/n", "x/y.y", "x/yy", "b/a"};
        for (int i = 0; i < free.length; i++) {
            int number = good.length + i;
            type(free[i]);
            due(number, "free '" + free[i] + "'", () -> x.part(1));
        }
    }

    private static void limitOfParts() {
        fresh(4);
        for (int i = 0; i < 30; i++) {
            int number = i;
            type("p" + i);
            due(number, "part " + i, () -> x.part(number));
        }
        type("q");
        due(STATE, "one part too many", () -> x.part(0));
        due(1, "its name stays", () -> x.wipe());
        due(UNSUPPORTED, "no name ahead of too many", () -> x.part(0));
        type("p3");
        due(UNSUPPORTED, "a taken name ahead of too many", () -> x.part(0));
        x.drop(3);
        due(STATE, "numbers are not used again", () -> x.part(0));
        due(29, "parts", () -> x.parts());
        due(29, "the last part", () -> x.content(29));
        due(INDEX, "behind the last part", () -> x.content(30));
    }

    // ---- promise 5 ----

    private static void dropping() {
        fresh(5);
        int a = part("a", 1);
        int b = part("b", 2);
        int fromContainer = top(-1, "a");
        int fromB = relative(b, 0, "a");
        int toB = top(a, "b");
        int itself = top(a, "a");
        int broken = top(b, "nobody");
        int outside = x.outer(a, 1, 5);
        int outsideB = x.outer(b, 1, 6);
        x.outer(-1, 1, 7);
        due(INDEX, "drop -1", () -> x.drop(-1));
        due(INDEX, "drop 2", () -> x.drop(2));
        due(INDEX, "drop 30", () -> x.drop(30));
        due(INDEX, "drop the lowest", () -> x.drop(Integer.MIN_VALUE));
        due(8, "nothing is gone", () -> x.relations('a'));
        due(2, "drop a", () -> x.drop(a));
        due(INDEX, "drop a again", () -> x.drop(a));
        for (int gone : new int[] {toB, itself, outside}) {
            due(INDEX, "a relation that is gone", () -> x.of(gone, 's'));
        }
        for (int stays : new int[] {fromContainer, fromB, broken}) {
            due(1, "a relation that is broken", () -> x.of(stays, 'b'));
        }
        due(6, "an outer one stays", () -> x.outside(outsideB));
        due(1, "parts", () -> x.parts());
        due(INDEX, "content", () -> x.content(a));
        type("a");
        due(-1, "find", () -> x.find());
        due(2, "the name is free, the number is not used again", () -> x.part(9));
        due(2, "the relation leads to the new part", () -> x.target(fromB));
    }

    // ---- promises 6 to 9 ----

    private static void namesAndFinding() {
        fresh(6);
        part("a.b/c1");
        due('a', "first sign", () -> x.name(0, 0));
        due('.', "second sign", () -> x.name(0, 1));
        due('/', "fourth sign", () -> x.name(0, 3));
        due('1', "last sign", () -> x.name(0, 5));
        due(ELEMENT, "behind the last", () -> x.name(0, 6));
        due(ELEMENT, "ahead of the first", () -> x.name(0, -1));
        due(ELEMENT, "far behind", () -> x.name(0, Integer.MAX_VALUE));
        due(ELEMENT, "far ahead", () -> x.name(0, Integer.MIN_VALUE));
        due(INDEX, "no part", () -> x.name(1, 0));
        due(INDEX, "no part and no place", () -> x.name(-1, -1));
        fresh(7);
        part("a/b");
        part("a/c");
        due(UNSUPPORTED, "find nothing typed", () -> x.find());
        type("a/c");
        due(1, "find a/c", () -> x.find());
        due(1, "find does not wipe", () -> x.find());
        due(3, "signs", () -> x.wipe());
        type("a");
        due(-1, "find a folder", () -> x.find());
        type("a/b/c");
        due(-1, "find behind a part", () -> x.find());
        type("a/cc");
        due(-1, "find a longer one", () -> x.find());
        type("a/");
        due(UNSUPPORTED, "find no name", () -> x.find());
    }

    private static void contents() {
        fresh(8);
        part("a", Integer.MIN_VALUE);
        part("b", -7);
        due(Integer.MIN_VALUE, "content", () -> x.content(0));
        due(-7, "content", () -> x.content(1));
        due(INDEX, "no part", () -> x.content(2));
        due(INDEX, "no part", () -> x.content(-1));
        promise = 9;
        due(-7, "set", () -> x.set(1, 12));
        due(12, "content", () -> x.content(1));
        due(Integer.MIN_VALUE, "the other stays", () -> x.content(0));
        due(markOf("b", 12), "the mark is told", () -> x.mark(1));
        due(12, "set again", () -> x.set(1, 12));
        due(INDEX, "no part", () -> x.set(2, 1));
        due(INDEX, "no part", () -> x.set(-1, 1));
        x.damageContent(1, 13);
        due(13, "set to what it is damaged to", () -> x.set(1, 13));
        due(false, "that tells the mark", () -> x.isHurt(1));
    }

    // ---- promises 10 to 12 ----

    private static void kinds() {
        fresh(10);
        part("a.b/c.xml");
        part("d.e/f");
        part("g.x.y");
        due(ARGUMENT, "kind 10", () -> x.ending(10));
        due(ARGUMENT, "kind -2", () -> x.ending(-2));
        for (String text : new String[] {"", "a.b", "a/b", ".", "abcdefg", ".a", "/"}) {
            type(text);
            due(UNSUPPORTED, "ending '" + text + "'", () -> x.ending(1));
            due(ARGUMENT, "the kind goes ahead for '" + text + "'", () -> x.ending(11));
            due(text.length(), "signs stay", () -> x.wipe());
        }
        type("xml");
        due(-1, "a new ending", () -> x.ending(9));
        due(0, "it is wiped", () -> x.wipe());
        type("xml");
        due(9, "another kind", () -> x.ending(0));
        type("xml");
        due(0, "taking the kind", () -> x.ending(-1));
        type("xml");
        due(-1, "taking it again", () -> x.ending(-1));
        type("xml");
        due(-1, "giving it again", () -> x.ending(3));
        type("abcdef");
        due(-1, "six signs", () -> x.ending(4));
        type("0");
        due(-1, "a digit", () -> x.ending(5));
        promise = 12;
        due(3, "kind by ending", () -> x.kind(0));
        type("e");
        x.ending(6);
        due(ELEMENT, "a dot of a folder is none of the ending", () -> x.kind(1));
        type("x");
        x.ending(7);
        due(ELEMENT, "only the last dot", () -> x.kind(2));
        type("y");
        x.ending(8);
        due(8, "the last dot", () -> x.kind(2));
        due(INDEX, "no part", () -> x.kind(3));
        due(INDEX, "no part", () -> x.kind(-1));
        promise = 11;
        due(-1, "own kind", () -> x.override(0, 9));
        due(9, "it goes ahead", () -> x.kind(0));
        due(9, "another one", () -> x.override(0, 0));
        due(0, "it goes ahead", () -> x.kind(0));
        due(ARGUMENT, "kind 10", () -> x.override(0, 10));
        due(ARGUMENT, "kind -2", () -> x.override(0, -2));
        due(INDEX, "no part", () -> x.override(3, 1));
        due(INDEX, "no part ahead of no kind", () -> x.override(-1, 10));
        due(0, "none", () -> x.override(0, -1));
        due(3, "the ending again", () -> x.kind(0));
        due(-1, "none again", () -> x.override(0, -1));
        due(-1, "own kind without an ending", () -> x.override(1, 2));
        due(2, "own kind without an ending", () -> x.kind(1));
        promise = 12;
        type("h.y");
        x.rename(0);
        due(8, "the ending of the new name", () -> x.kind(0));
        type("i.0");
        x.damageName(0);
        due(5, "the ending of the damaged name", () -> x.kind(0));
        type("i.00");
        x.damageName(0);
        due(ELEMENT, "another ending", () -> x.kind(0));
    }

    private static void manyEndings() {
        fresh(10);
        String signs = "abcdefghijklmnopqrstuvwxyz0123456789";
        for (int i = 0; i < signs.length() * 4; i++) {
            String text = i < signs.length() ? "" : "" + "qrs".charAt(i / signs.length() - 1);
            for (char sign : (text + signs.charAt(i % signs.length())).toCharArray()) {
                x.type(sign);
            }
            int kind = i % 10;
            due(-1, "ending " + i, () -> x.ending(kind));
        }
        type("q5");
        due((36 + 31) % 10, "one of many", () -> x.ending(-1));
        type("a");
        due(0, "the first one", () -> x.ending(9));
        part("a.s9");
        due(3, "the last one", () -> x.kind(0));
        fresh(10);
        for (int i = 0; i < 3; i++) {
            type("e" + i);
            x.ending(i + 1);
        }
        type("e0");
        due(1, "taking the first", () -> x.ending(-1));
        type("e2");
        due(3, "the last stays", () -> x.ending(5));
        type("e1");
        due(2, "the middle stays", () -> x.ending(5));
        type("e0");
        due(-1, "the first is gone", () -> x.ending(5));
    }

    // ---- promises 13 to 15 ----

    private static void relating() {
        fresh(13);
        int a = part("a/b/c/d", 1);
        int b = part("a/b/e", 2);
        type("a/b/e");
        due(0, "from the top", () -> x.relate(-1, 0, false, 0));
        due(0, "the name is wiped", () -> x.wipe());
        due(b, "it leads", () -> x.target(0));
        type("e");
        due(1, "relative with steps", () -> x.relate(a, 9, true, 1));
        due(b, "it leads", () -> x.target(1));
        type("c/d");
        due(2, "relative without steps", () -> x.relate(b, 5, true, 0));
        due(a, "it leads", () -> x.target(2));
        type("a/b/e");
        due(3, "three steps", () -> x.relate(a, 1, true, 3));
        due(b, "it leads", () -> x.target(3));
        type("nobody");
        due(4, "to none", () -> x.relate(a, 1, false, 0));
        due(1, "broken", () -> x.of(4, 'b'));
        type("a/b/e");
        due(5, "relative from the container", () -> x.relate(-1, 1, true, 0));
        due(b, "it leads", () -> x.target(5));
        type("a/b/e");
        due(6, "above the container", () -> x.relate(-1, 1, true, 1));
        due(1, "broken", () -> x.of(6, 'b'));
        type("a/b/e");
        due(7, "above the top", () -> x.relate(b, 1, true, 3));
        due(1, "broken", () -> x.of(7, 'b'));
        due(3, "steps are kept", () -> x.of(7, 'u'));
    }

    private static void relatingWrongly() {
        fresh(13);
        part("a");
        part("b");
        x.drop(1);
        due(INDEX, "no part ahead of all", () -> x.relate(2, 10, true, 4));
        due(INDEX, "a part that was dropped", () -> x.relate(1, 0, true, 0));
        due(INDEX, "-2", () -> x.relate(-2, 0, true, 0));
        due(ARGUMENT, "sort 10 ahead of no name", () -> x.relate(0, 10, true, 0));
        due(ARGUMENT, "sort -1", () -> x.relate(0, -1, true, 0));
        due(ARGUMENT, "4 steps", () -> x.relate(0, 0, true, 4));
        due(ARGUMENT, "-1 steps", () -> x.relate(0, 0, true, -1));
        due(ARGUMENT, "steps from the top", () -> x.relate(0, 0, false, 1));
        due(ARGUMENT, "-1 steps from the top", () -> x.relate(0, 0, false, -1));
        due(UNSUPPORTED, "no name", () -> x.relate(0, 0, true, 0));
        type("a..b");
        due(UNSUPPORTED, "no name", () -> x.relate(-1, 9, false, 0));
        due(4, "signs stay", () -> x.wipe());
        due(0, "no relations", () -> x.relations('a'));
    }

    private static void outerRelations() {
        fresh(14);
        part("a");
        part("b");
        x.drop(1);
        type("a");
        due(0, "outer", () -> x.outer(0, 9, Integer.MIN_VALUE));
        due(1, "outer of the container", () -> x.outer(-1, 0, -1));
        due(1, "what is typed stays", () -> x.wipe());
        due(INDEX, "no part ahead of no sort", () -> x.outer(1, 10, 0));
        due(INDEX, "-2", () -> x.outer(-2, 0, 0));
        due(ARGUMENT, "sort 10", () -> x.outer(0, 10, 0));
        due(ARGUMENT, "sort -1", () -> x.outer(-1, -1, 0));
        due(2, "relations", () -> x.relations('o'));
        promise = 19;
        due(Integer.MIN_VALUE, "outside", () -> x.outside(0));
        due(-1, "outside", () -> x.outside(1));
        due(INDEX, "no relation", () -> x.outside(2));
        due(INDEX, "no relation", () -> x.outside(-1));
        top(0, "a");
        due(ELEMENT, "inner", () -> x.outside(2));
    }

    private static void limitOfRelations() {
        fresh(14);
        part("a");
        for (int i = 0; i < 60; i++) {
            int number = i;
            if (i % 2 == 0) {
                due(number, "relation " + i, () -> x.outer(-1, 0, number));
            } else {
                type("a");
                due(number, "relation " + i, () -> x.relate(0, 0, true, 0));
            }
        }
        due(STATE, "one outer relation too many", () -> x.outer(-1, 0, 0));
        due(ARGUMENT, "no sort ahead of too many", () -> x.outer(-1, 10, 0));
        promise = 13;
        due(UNSUPPORTED, "no name ahead of too many", () -> x.relate(0, 0, false, 0));
        type("a");
        due(STATE, "one relation too many", () -> x.relate(0, 0, false, 0));
        x.unrelate(59);
        due(STATE, "numbers are not used again", () -> x.relate(0, 0, false, 0));
        due(1, "the sign stays", () -> x.wipe());
        due(59, "relations", () -> x.relations('a'));
        due(58, "the last outer one", () -> x.outside(58));
        due(INDEX, "the one that is taken away", () -> x.target(59));
        due(INDEX, "behind the last", () -> x.target(60));
    }

    private static void unrelating() {
        fresh(15);
        part("a");
        top(-1, "a");
        top(-1, "b");
        x.outer(-1, 0, 3);
        due(0, "that led to a part", () -> x.unrelate(0));
        due(-1, "that was broken", () -> x.unrelate(1));
        due(-1, "that was outer", () -> x.unrelate(2));
        for (int i = -1; i < 4; i++) {
            int number = i;
            due(INDEX, "that is not there", () -> x.unrelate(number));
        }
        due(INDEX, "far away", () -> x.unrelate(Integer.MAX_VALUE));
        due(0, "relations", () -> x.relations('a'));
        due(1, "parts", () -> x.parts());
        due(3, "the next number", () -> x.outer(-1, 0, 1));
    }

    // ---- promises 16 to 19 ----

    private static void targets() {
        fresh(16);
        int a = part("a/b/c");
        top(-1, "a/b/c");
        top(a, "b/c");
        relative(a, 0, "c");
        relative(a, 1, "b/c");
        relative(a, 2, "a/b/c");
        relative(a, 1, "c");
        relative(a, 3, "a/b/c");
        relative(a, 0, "a/b/c");
        x.outer(a, 0, 0);
        due(a, "from the top", () -> x.target(0));
        due(ELEMENT, "a name that ends alike", () -> x.target(1));
        due(a, "relative", () -> x.target(2));
        due(a, "one step", () -> x.target(3));
        due(a, "two steps", () -> x.target(4));
        due(ELEMENT, "a step too many", () -> x.target(5));
        due(ELEMENT, "above the top", () -> x.target(6));
        due(ELEMENT, "deeper than a name", () -> x.target(7));
        due(ELEMENT, "outer", () -> x.target(8));
        due(INDEX, "no relation", () -> x.target(9));
        due(INDEX, "no relation", () -> x.target(-1));
        int late = top(-1, "later");
        due(ELEMENT, "none yet", () -> x.target(late));
        int later = part("later");
        due(later, "by now", () -> x.target(late));
        int run = part("ab/b/c");
        int glued = relative(run, 1, "b/c");
        due(run, "a folder is taken by pieces", () -> x.target(glued));
        int joined = top(-1, "a/bb/c");
        due(ELEMENT, "another name of a like length", () -> x.target(joined));
    }

    private static void thingsOfRelations() {
        fresh(17);
        part("a/b");
        type("b");
        x.relate(0, 7, true, 2);
        type("a/b");
        x.relate(-1, 0, false, 0);
        x.outer(0, 9, 44);
        Object[][] want = {{0, 7, 1, 2, 1, 0}, {-1, 0, 0, 0, 0, 0}, {0, 9, 0, 0, 0, 1}};
        String letters = "fsrubo";
        for (int i = 0; i < want.length; i++) {
            for (int j = 0; j < letters.length(); j++) {
                int number = i;
                char letter = letters.charAt(j);
                due(want[i][j], letter + " of " + i, () -> x.of(number, letter));
            }
        }
        due(ARGUMENT, "no letter", () -> x.of(0, 'x'));
        due(ARGUMENT, "a great letter", () -> x.of(0, 'F'));
        due(INDEX, "no relation ahead of no letter", () -> x.of(3, 'x'));
        due(INDEX, "no relation", () -> x.of(-1, 'f'));
        promise = 18;
        due('a', "first sign", () -> x.written(1, 0));
        due('/', "second sign", () -> x.written(1, 1));
        due('b', "last sign", () -> x.written(1, 2));
        due(ELEMENT, "behind the last", () -> x.written(1, 3));
        due(ELEMENT, "ahead of the first", () -> x.written(1, -1));
        due('b', "the steps are not in the name", () -> x.written(0, 0));
        due(ELEMENT, "behind the last", () -> x.written(0, 1));
        due(ELEMENT, "outer", () -> x.written(2, 0));
        due(INDEX, "no relation", () -> x.written(3, 0));
        due(INDEX, "no relation", () -> x.written(-1, -1));
    }

    // ---- promise 20 ----

    private static void renaming() {
        fresh(20);
        int a = part("a", 4);
        part("b");
        top(-1, "a");
        top(1, "a");
        top(a, "b");
        top(a, "a");
        type("c/d");
        due(3, "rename", () -> x.rename(a));
        due(0, "the name is wiped", () -> x.wipe());
        due("c/d", "its name", () -> nameOf(a));
        due("top:c/d", "written anew", () -> text(0));
        due("top:c/d", "written anew", () -> text(1));
        due("top:b", "from the top to another part stays", () -> text(2));
        due("top:c/d", "to itself", () -> text(3));
        due(a, "it leads", () -> x.target(0));
        due(markOf("c/d", 4), "the mark is told", () -> x.mark(a));
        due(4, "the content stays", () -> x.content(a));
        type("c/d");
        due(3, "to what it was", () -> x.rename(a));
        type("c");
        due(3, "its own folder", () -> x.rename(a));
        type("c/e/f");
        due(3, "below its own name", () -> x.rename(a));
        x.damageContent(a, 5);
        type("z");
        x.rename(a);
        due(false, "renaming tells the mark of a hurt part", () -> x.isHurt(a));
        part("alone");
        type("y");
        due(0, "a part with no relations", () -> x.rename(2));
    }

    private static void renamingRelative() {
        fresh(20);
        int a = part("m/n/a");
        int b = part("m/n/b");
        int c = part("m/c");
        int d = part("d");
        relative(a, 0, "b");
        relative(a, 2, "m/c");
        relative(a, 2, "d");
        relative(b, 2, "m/n/a");
        relative(d, 0, "m/n/a");
        relative(a, 2, "m/n/a");
        relative(-1, 0, "m/n/a");
        relative(b, 2, "m/n/b");
        relative(a, 1, "nobody");
        top(a, "d");
        type("m/o/p/a");
        due(7, "rename", () -> x.rename(a));
        String[] want = {"2:n/b", "2:c", "3:d", "1:o/p/a", "0:m/o/p/a", "0:a", "0:m/o/p/a", "2:m/n/b", "1:nobody", "top:d"};
        for (int i = 0; i < want.length; i++) {
            int number = i;
            due(want[i], "written " + i, () -> text(number));
        }
        int[] leads = {b, c, d, a, a, a, a, b};
        for (int i = 0; i < leads.length; i++) {
            int number = i;
            due(leads[i], "target " + i, () -> x.target(number));
        }
        type("a");
        due(7, "to the top", () -> x.rename(a));
        String[] then = {"0:m/n/b", "0:m/c", "0:d", "2:a", "0:a", "0:a", "0:a", "2:m/n/b", "1:nobody", "top:d"};
        for (int i = 0; i < then.length; i++) {
            int number = i;
            due(then[i], "written " + i, () -> text(number));
        }
        type("mm/n/a");
        due(7, "a folder that starts alike", () -> x.rename(a));
        due("2:m/n/b", "no part of a piece is shared", () -> text(0));
    }

    private static void renamingLeavesBroken() {
        fresh(20);
        int a = part("a/x");
        int b = part("b/y");
        relative(a, 0, "y");
        top(b, "c/x");
        type("b/x");
        due(0, "rename", () -> x.rename(a));
        due("0:y", "it stays", () -> text(0));
        due(b, "even if it leads then", () -> x.target(0));
        type("c/x");
        due(1, "rename", () -> x.rename(a));
        due("1:b/y", "now it was not broken", () -> text(0));
        due("top:c/x", "it stays", () -> text(1));
        due(a, "even if it leads then", () -> x.target(1));
    }

    private static void renamingWrongly() {
        fresh(20);
        int a = part("a");
        part("b/c");
        part("d");
        x.drop(2);
        top(-1, "a");
        due(INDEX, "no part ahead of no name", () -> x.rename(3));
        due(INDEX, "a part that was dropped", () -> x.rename(2));
        due(INDEX, "-1", () -> x.rename(-1));
        due(UNSUPPORTED, "no name", () -> x.rename(0));
        for (String name : new String[] {"b/c", "b", "b/c/d", "a..a"}) {
            type(name);
            due(UNSUPPORTED, "taken '" + name + "'", () -> x.rename(a));
            due(name.length(), "signs stay", () -> x.wipe());
        }
        due("a", "its name", () -> nameOf(a));
        due("top:a", "the relation", () -> text(0));
        type("d/e");
        due(1, "a name that is free again", () -> x.rename(a));
    }

    // ---- promise 21 ----

    private static void renamingFolders() {
        fresh(21);
        part("a/b/c/d", 1);
        part("a/b/e", 2);
        part("a/f", 3);
        part("ab/b/c", 4);
        part("b", 5);
        type("q");
        due(2, "a folder of two pieces", () -> x.renameFolder(0, 2));
        due(0, "the name is wiped", () -> x.wipe());
        due("q/c/d", "name", () -> nameOf(0));
        due("q/e", "name", () -> nameOf(1));
        due("a/f", "name", () -> nameOf(2));
        due(markOf("q/c/d", 1), "mark", () -> x.mark(0));
        due(markOf("q/e", 2), "mark", () -> x.mark(1));
        type("a/z");
        due(2, "into another folder", () -> x.renameFolder(1, 1));
        due("a/z/c/d", "name", () -> nameOf(0));
        type("a/z/y");
        due(1, "deeper within itself", () -> x.renameFolder(0, 3));
        due("a/z/y/d", "name", () -> nameOf(0));
        type("r");
        due(3, "all of a folder", () -> x.renameFolder(2, 1));
        due("r/z/y/d", "name", () -> nameOf(0));
        due("r/z/e", "name", () -> nameOf(1));
        due("r/f", "name", () -> nameOf(2));
        due("ab/b/c", "a folder that starts alike", () -> nameOf(3));
        x.damageContent(0, 9);
        type("s");
        due(3, "with a hurt part", () -> x.renameFolder(0, 1));
        due(false, "the mark is told", () -> x.isHurt(0));
    }

    private static void renamingFoldersKeepsRelations() {
        fresh(21);
        int a = part("a/b/x");
        int b = part("a/b/y");
        int c = part("a/c");
        int d = part("d");
        relative(a, 2, "a/b/y");
        relative(a, 1, "c");
        relative(b, 2, "d");
        relative(c, 0, "b/x");
        top(d, "a/b/x");
        top(a, "d");
        relative(b, 0, "none");
        relative(d, 0, "a/c");
        relative(c, 0, "c");
        type("m/n/o");
        due(2, "rename", () -> x.renameFolder(a, 2));
        String[] want = {"0:y", "3:a/c", "3:d", "1:m/n/o/x", "top:m/n/o/x", "top:d", "0:none", "0:a/c", "0:c"};
        for (int i = 0; i < want.length; i++) {
            int number = i;
            due(want[i], "written " + i, () -> text(number));
        }
        type("a");
        due(2, "rename", () -> x.renameFolder(b, 3));
        String[] then = {"0:y", "0:c", "1:d", "0:x", "top:a/x", "top:d", "0:none", "0:a/c", "0:c"};
        for (int i = 0; i < then.length; i++) {
            int number = i;
            due(then[i], "written " + i, () -> text(number));
        }
        due(1, "broken", () -> x.relations('b'));
    }

    private static void renamingFoldersToTheSame() {
        fresh(21);
        part("a/b/c", 1);
        part("a/d", 2);
        relative(1, 1, "a/b/c");
        x.damageContent(0, 5);
        type("a");
        due(0, "no part has another name", () -> x.renameFolder(0, 1));
        due(0, "the name is wiped", () -> x.wipe());
        due("a/b/c", "name", () -> nameOf(0));
        due("0:b/c", "written anew", () -> text(0));
        due(false, "the mark is told", () -> x.isHurt(0));
    }

    private static void renamingFoldersWrongly() {
        fresh(21);
        part("a/b/c/d");
        part("a/e");
        part("f/e");
        part("g");
        part("h/b/c/d");
        part("k");
        x.drop(5);
        due(INDEX, "no part ahead of all", () -> x.renameFolder(6, 0));
        due(INDEX, "a part that was dropped", () -> x.renameFolder(5, 1));
        due(INDEX, "-1", () -> x.renameFolder(-1, 1));
        due(ARGUMENT, "no pieces ahead of no name", () -> x.renameFolder(0, 0));
        due(ARGUMENT, "-1 pieces", () -> x.renameFolder(0, -1));
        due(ARGUMENT, "4 pieces", () -> x.renameFolder(0, 4));
        due(ARGUMENT, "all pieces", () -> x.renameFolder(1, 2));
        due(ARGUMENT, "the only piece", () -> x.renameFolder(3, 1));
        due(ARGUMENT, "many pieces", () -> x.renameFolder(0, Integer.MAX_VALUE));
        due(UNSUPPORTED, "no name", () -> x.renameFolder(0, 1));
        for (String name : new String[] {"a/", "m/n", "f", "g", "g/h", "k/l/m"}) {
            type(name);
            due(UNSUPPORTED, "folder a to '" + name + "'", () -> x.renameFolder(1, 1));
            due(name.length(), "signs stay", () -> x.wipe());
        }
        due("a/b/c/d", "name", () -> nameOf(0));
        due("a/e", "name", () -> nameOf(1));
        type("a/b");
        due(UNSUPPORTED, "a name of five pieces", () -> x.renameFolder(0, 1));
        part("m/d/x");
        type("m");
        due(UNSUPPORTED, "a folder above another part", () -> x.renameFolder(0, 3));
        part("n/b");
        type("n");
        due(UNSUPPORTED, "below another part", () -> x.renameFolder(0, 1));
        type("k");
        due(2, "a name that is free again", () -> x.renameFolder(0, 1));
    }

    // ---- promise 22 ----

    private static void exchanging() {
        fresh(22);
        int a = part("m/a", 1);
        int b = part("b", 2);
        part("m/c", 3);
        x.drop(2);
        top(-1, "m/a");
        relative(a, 1, "b");
        relative(b, 0, "m/a");
        relative(a, 1, "m/a");
        relative(a, 0, "c");
        x.outer(a, 0, 0);
        x.override(a, 4);
        x.damageContent(b, 22);
        due(INDEX, "no part", () -> x.exchange(0, 3));
        due(INDEX, "no part", () -> x.exchange(3, 0));
        due(INDEX, "a part that was dropped", () -> x.exchange(2, 0));
        due(INDEX, "no part ahead of the same", () -> x.exchange(-1, -1));
        due(ARGUMENT, "the same", () -> x.exchange(1, 1));
        type("x");
        due(4, "exchange", () -> x.exchange(a, b));
        due(1, "what is typed stays", () -> x.wipe());
        due(22, "content", () -> x.content(a));
        due(1, "content", () -> x.content(b));
        due(markOf("m/a", 22), "mark", () -> x.mark(a));
        due(markOf("b", 1), "mark", () -> x.mark(b));
        String[] want = {"top:b", "0:a", "0:b", "1:b", "0:c"};
        for (int i = 0; i < want.length; i++) {
            int number = i;
            due(want[i], "written " + i, () -> text(number));
        }
        due(4, "an own kind stays with its part", () -> x.kind(a));
        due(4, "back", () -> x.exchange(b, a));
        due(1, "content", () -> x.content(a));
        due("top:m/a", "written", () -> text(0));
        fresh(22);
        part("a", 1);
        part("b", 2);
        top(-1, "c");
        due(0, "without relations", () -> x.exchange(0, 1));
        due(2, "content", () -> x.content(0));
    }

    // ---- promises 23 to 28 ----

    private static void damagingNames() {
        fresh(23);
        int a = part("m/a", 1);
        int b = part("m/b", 2);
        int c = part("c", 3);
        top(-1, "m/a");
        top(-1, "n/a");
        relative(a, 0, "b");
        relative(b, 0, "a");
        relative(a, 1, "c");
        relative(a, 0, "a");
        x.outer(a, 0, 0);
        due(INDEX, "no part ahead of no name", () -> x.damageName(3));
        due(INDEX, "-1", () -> x.damageName(-1));
        due(UNSUPPORTED, "no name", () -> x.damageName(0));
        for (String name : new String[] {"m/b", "m", "c/d", "c", "."}) {
            type(name);
            due(UNSUPPORTED, "'" + name + "'", () -> x.damageName(a));
            due(name.length(), "signs stay", () -> x.wipe());
        }
        type("n/a");
        due(4, "damage", () -> x.damageName(a));
        due(0, "the name is wiped", () -> x.wipe());
        due("n/a", "name", () -> nameOf(a));
        due("top:m/a", "nothing is written", () -> text(0));
        due(ELEMENT, "to none", () -> x.target(0));
        due(a, "to one", () -> x.target(1));
        due(ELEMENT, "from the damaged one", () -> x.target(2));
        due(ELEMENT, "relative to none", () -> x.target(3));
        due(c, "as ahead", () -> x.target(4));
        due(a, "to itself", () -> x.target(5));
        due(true, "it is hurt", () -> x.isHurt(a));
        due(markOf("m/a", 1), "the mark stays", () -> x.mark(a));
        type("n/a");
        due(0, "to the same name", () -> x.damageName(a));
        type("m/a");
        due(4, "back", () -> x.damageName(a));
        due(false, "not hurt then", () -> x.isHurt(a));
        part("k/b");
        type("k/a");
        due(3, "to another part than ahead, and to none", () -> x.damageName(a));
        due(3, "the other part", () -> x.target(2));
    }

    private static void damagingContents() {
        fresh(24);
        part("a", 5);
        due(5, "damage", () -> x.damageContent(0, 6));
        due(6, "content", () -> x.content(0));
        due(markOf("a", 5), "the mark stays", () -> x.mark(0));
        promise = 26;
        due(true, "hurt", () -> x.isHurt(0));
        due(6, "back", () -> x.damageContent(0, 5));
        due(false, "not hurt", () -> x.isHurt(0));
        due(INDEX, "no part", () -> x.isHurt(1));
        due(INDEX, "no part", () -> x.isHurt(-1));
        promise = 24;
        due(INDEX, "no part", () -> x.damageContent(1, 6));
        due(INDEX, "no part", () -> x.damageContent(-1, 6));
    }

    private static void damagingRelations() {
        fresh(25);
        int a = part("m/a");
        int b = part("m/b");
        relative(a, 1, "m/b");
        x.outer(a, 0, 3);
        top(-1, "m/b");
        due(INDEX, "no relation", () -> x.damageRelation(3));
        due(INDEX, "no relation", () -> x.damageRelation(-1));
        due(UNSUPPORTED, "no name", () -> x.damageRelation(0));
        type("m/a");
        due(UNSUPPORTED, "outer", () -> x.damageRelation(1));
        due(3, "signs stay", () -> x.wipe());
        type("m/a");
        due(false, "to a part", () -> x.damageRelation(0));
        due(0, "the name is wiped", () -> x.wipe());
        due("1:m/a", "the steps stay", () -> text(0));
        due(a, "it leads", () -> x.target(0));
        type("b");
        due(true, "to none", () -> x.damageRelation(0));
        due("1:b", "the steps stay", () -> text(0));
        type("m/a");
        due(false, "from the top", () -> x.damageRelation(2));
        due("top:m/a", "written", () -> text(2));
        due(0, "the sort stays", () -> x.of(2, 's'));
        due(false, "no part is hurt", () -> x.isHurt(a) || x.isHurt(b));
    }

    private static void mending() {
        fresh(27);
        part("a", 1);
        part("b", 2);
        part("c", 3);
        part("d", 4);
        x.damageContent(0, 9);
        x.damageContent(1, 9);
        x.damageContent(3, 9);
        due(UNSUPPORTED, "not hurt", () -> x.mend(2));
        due(INDEX, "no part", () -> x.mend(4));
        due(INDEX, "no part", () -> x.mend(-1));
        due(2, "mend", () -> x.mend(1));
        due(9, "the content stays", () -> x.content(1));
        due(markOf("b", 9), "the mark is right", () -> x.mark(1));
        due(UNSUPPORTED, "mended already", () -> x.mend(1));
        x.drop(3);
        due(0, "the last one", () -> x.mend(0));
        due(INDEX, "a part that was dropped", () -> x.mend(3));
    }

    private static void marks() {
        fresh(28);
        part("a/b.c1", -3);
        due(markOf("a/b.c1", -3), "mark", () -> x.mark(0));
        part("z", 0);
        due(31 * (31 * 7 + 'z'), "mark", () -> x.mark(1));
        due(INDEX, "no part", () -> x.mark(2));
        due(INDEX, "no part", () -> x.mark(-1));
        x.drop(1);
        due(INDEX, "a part that was dropped", () -> x.mark(1));
    }

    // ---- promises 29 to 33 ----

    private static void counting() {
        fresh(29);
        due(0, "parts", () -> x.parts());
        part("a");
        part("b");
        due(2, "parts", () -> x.parts());
        x.drop(0);
        due(1, "parts", () -> x.parts());
        fresh(30);
        part("a");
        due(0, "all", () -> x.relations('a'));
        top(-1, "a");
        top(-1, "b");
        top(-1, "c");
        relative(0, 1, "a");
        x.outer(0, 0, 0);
        x.outer(0, 0, 0);
        due(6, "all", () -> x.relations('a'));
        due(1, "inner ones that are not broken", () -> x.relations('i'));
        due(2, "outer ones", () -> x.relations('o'));
        due(3, "broken ones", () -> x.relations('b'));
        due(ARGUMENT, "no letter", () -> x.relations('x'));
        due(ARGUMENT, "a great letter", () -> x.relations('A'));
        x.unrelate(1);
        x.unrelate(4);
        due(4, "all", () -> x.relations('a'));
        due(1, "outer ones", () -> x.relations('o'));
        due(2, "broken ones", () -> x.relations('b'));
    }

    private static void walking() {
        fresh(31);
        due(0, "walk of nothing", () -> x.walked());
        due(ELEMENT, "place 0 of nothing", () -> x.walkAt(0));
        for (int i = 0; i < 8; i++) {
            part("p" + i);
        }
        top(4, "p1");
        top(3, "p6");
        top(-1, "p4");
        top(6, "p4");
        top(-1, "p3");
        top(-1, "p4");
        top(4, "p5");
        top(1, "p1");
        top(1, "p0");
        top(7, "p2");
        top(2, "p7");
        x.outer(-1, 0, 2);
        due(6, "walked", () -> x.walked());
        promise = 32;
        int[] order = {4, 3, 1, 5, 6, 0};
        for (int i = 0; i < order.length; i++) {
            int place = i;
            due(order[i], "place " + i, () -> x.walkAt(place));
        }
        due(ELEMENT, "behind the last", () -> x.walkAt(6));
        due(ELEMENT, "ahead of the first", () -> x.walkAt(-1));
        due(ELEMENT, "far behind", () -> x.walkAt(Integer.MAX_VALUE));
        promise = 33;
        due(2, "orphans", () -> x.orphans());
        x.drop(4);
        due(5, "orphans", () -> x.orphans());
        promise = 31;
        due(2, "walked without what only p4 led to", () -> x.walked());
        fresh(33);
        for (int i = 0; i < 30; i++) {
            part("p" + i);
        }
        due(30, "all are orphans", () -> x.orphans());
        for (int i = 0; i < 30; i++) {
            top(i - 1, "p" + i);
        }
        due(0, "a chain of all", () -> x.orphans());
        due(30, "a chain of all", () -> x.walked());
        due(29, "its end", () -> x.walkAt(29));
        due(ELEMENT, "behind its end", () -> x.walkAt(30));
        due(0, "no circle", () -> x.circles());
        top(29, "p0");
        due(1, "one circle of all", () -> x.circles());
        due(true, "all are in it", () -> x.isInCircle(17));
    }

    // ---- promises 34 to 36 ----

    private static void circles() {
        fresh(34);
        for (int i = 0; i < 9; i++) {
            part("p" + i);
        }
        due(0, "none", () -> x.circles());
        top(0, "p1");
        top(1, "p2");
        due(0, "a chain", () -> x.circles());
        top(2, "p0");
        due(1, "three parts", () -> x.circles());
        top(2, "p3");
        top(3, "p4");
        top(4, "p3");
        due(2, "two more", () -> x.circles());
        top(5, "p5");
        due(3, "one with itself", () -> x.circles());
        top(0, "p0");
        due(3, "one with itself within another circle", () -> x.circles());
        top(6, "p5");
        top(5, "p7");
        top(-1, "p8");
        promise = 35;
        boolean[] in = {true, true, true, true, true, true, false, false, false};
        for (int i = 0; i < in.length; i++) {
            int number = i;
            due(in[i], "is in circle " + i, () -> x.isInCircle(number));
        }
        due(INDEX, "no part", () -> x.isInCircle(9));
        due(INDEX, "no part", () -> x.isInCircle(-1));
        promise = 34;
        top(4, "p1");
        due(2, "two become one", () -> x.circles());
        x.drop(1);
        due(3, "parts of a broken circle", () -> x.circles());
        promise = 35;
        due(INDEX, "a part that was dropped", () -> x.isInCircle(1));
        due(false, "broken", () -> x.isInCircle(2));
        due(true, "with itself still", () -> x.isInCircle(0));
    }

    private static void belowFolders() {
        fresh(36);
        part("a/b/c");
        part("a/b/d/e");
        part("a/f");
        part("ab/g");
        part("k");
        due(UNSUPPORTED, "nothing typed", () -> x.below());
        String[] folders = {"a", "a/b", "a/b/c", "a/b/d", "ab", "k", "z", "a/b/d/e"};
        int[] counts = {3, 2, 0, 1, 1, 0, 0, 0};
        for (int i = 0; i < folders.length; i++) {
            type(folders[i]);
            due(counts[i], "below " + folders[i], () -> x.below());
            due(folders[i].length(), "signs stay", () -> x.wipe());
        }
        type("a/");
        due(UNSUPPORTED, "no name", () -> x.below());
        x.drop(0);
        type("a");
        due(2, "without a part that was dropped", () -> x.below());
    }

    // ---- promises 37 to 40 ----

    private static void checksums() {
        fresh(37);
        part("a", -5);
        part("b", Integer.MAX_VALUE);
        part("c", 7);
        x.drop(1);
        top(-1, "c");
        top(-1, "b");
        x.outer(0, 0, 12);
        x.unrelate(2);
        top(2, "a");
        x.damageContent(2, 8);
        long sum = 7;
        sum = 31 * sum - 5;
        sum = 31 * sum + markOf("a", -5);
        sum = 31 * sum + 8;
        sum = 31 * sum + markOf("c", 7);
        sum = 31 * sum + 2;
        sum = 31 * sum - 1;
        sum = 31 * sum + 0;
        long want = sum;
        due(want, "checksum", () -> x.checksum());
        x.outer(-1, 0, 99);
        due(31 * want - 1, "an outer one leads to none", () -> x.checksum());
    }

    private static void shares() {
        fresh(38);
        part("a");
        due(ARITHMETIC, "no relations", () -> x.brokenShare());
        top(-1, "a");
        due(0.0f, "none broken", () -> x.brokenShare());
        top(-1, "b");
        x.outer(-1, 0, 0);
        due(1.0f / 3.0f, "one of three", () -> x.brokenShare());
        x.unrelate(0);
        x.unrelate(2);
        due(1.0f, "all broken", () -> x.brokenShare());
        x.unrelate(1);
        due(ARITHMETIC, "none any more", () -> x.brokenShare());
        fresh(39);
        due(ARITHMETIC, "no parts", () -> x.meanPieces());
        part("a.b");
        due(1.0, "one piece", () -> x.meanPieces());
        part("c/d/e/f");
        part("g/h");
        due(7.0 / 3.0, "of three", () -> x.meanPieces());
        x.drop(1);
        due(1.5, "of two", () -> x.meanPieces());
        x.drop(0);
        x.drop(2);
        due(ARITHMETIC, "no parts any more", () -> x.meanPieces());
    }

    private static void soundness() {
        fresh(40);
        due(true, "a new object", () -> x.isSound());
        int a = part("m/n/o/a");
        int b = part("m/b");
        part("c");
        relative(a, 2, "b");
        relative(b, 0, "n/o/a");
        relative(b, 3, "c");
        relative(-1, 0, "c");
        relative(-1, 1, "c");
        top(-1, "nobody");
        x.outer(a, 0, 0);
        due(true, "some parts", () -> x.isSound());
        type("z/a");
        x.damageName(a);
        due(true, "a damaged name", () -> x.isSound());
        type("c");
        x.damageRelation(0);
        due(true, "a damaged relation", () -> x.isSound());
        x.drop(b);
        due(true, "a dropped part", () -> x.isSound());
    }

    /** As many parts and relations as there can be, so that every row is used to its end. */
    private static void everythingFull() {
        fresh(20);
        for (int i = 0; i < 30; i++) {
            part("f/p" + i, i);
        }
        for (int i = 0; i < 60; i++) {
            relative(i % 30, 0, "p" + (i + 1) % 30);
        }
        type("g/h/last");
        due(4, "rename the last part", () -> x.rename(29));
        due("2:f/p0", "the last relation", () -> text(59));
        promise = 21;
        type("k");
        due(29, "rename the folder of all others", () -> x.renameFolder(0, 1));
        due("2:k/p0", "the last relation", () -> text(59));
        due("1:g/h/last", "the one ahead of it", () -> text(58));
        promise = 22;
        due(4, "exchange", () -> x.exchange(29, 0));
        due("0:last", "the last relation", () -> text(59));
        promise = 23;
        type("m");
        due(2, "damage a part that leads to itself alone", () -> x.damageName(29));
        promise = 27;
        due(0, "mend", () -> x.mend(29));
        promise = 30;
        due(2, "broken", () -> x.relations('b'));
        promise = 31;
        due(0, "walked", () -> x.walked());
        promise = 34;
        due(1, "circles", () -> x.circles());
        promise = 36;
        type("k");
        due(29, "below", () -> x.below());
        promise = 38;
        due(2.0f / 60.0f, "broken share", () -> x.brokenShare());
        promise = 40;
        due(true, "sound", () -> x.isSound());
        promise = 5;
        due(0, "drop the last part", () -> x.drop(29));
        due(58, "relations that stay", () -> x.relations('a'));
    }
}
