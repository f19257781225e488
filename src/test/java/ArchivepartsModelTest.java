import java.util.ArrayList;
import java.util.Arrays;
import java.util.HashMap;
import java.util.LinkedHashSet;
import java.util.List;
import java.util.Map;
import java.util.NoSuchElementException;
import java.util.Set;
import java.util.TreeMap;
import java.util.TreeSet;

/**
 * Runs many made-up calls on Archiveparts and on a plain model of the document, written with lists of
 * pieces and the Java library, and prints each call that both answer differently. The calls come from a
 * counted sequence, so every run is the same.
 */
public final class ArchivepartsModelTest {
    private static final int RUNS = 4000;
    private static final int CALLS = 512;
    private static final String[] FORMS = {"crowded", "wide", "sparse", "full"};

    private interface Call {
        Object run();
    }

    private static int wrong = 0;
    private static final Map<String, Integer> seen = new TreeMap<>();

    private long seed;
    private int form;
    private int calls;
    private int run;
    private Archiveparts real;
    private Model model;
    private final StringBuilder told = new StringBuilder();

    public static void main(String[] args) {
        for (int run = 0; run < RUNS && wrong < 5; run++) {
            new ArchivepartsModelTest().go(run);
        }
        if (args.length > 0) {
            System.out.println(seen);
        }
        System.out.println(wrong == 0 ? "model: all answers agree" : "model: " + wrong + " answers differ");
        if (wrong != 0) {
            System.exit(1);
        }
    }

    private int below(int bound) {
        seed = seed * 6364136223846793005L + 1442695040888963407L;
        return (int) ((seed >>> 33) % bound);
    }

    private void go(int number) {
        run = number;
        seed = number * 7919L + 17;
        form = number % FORMS.length;
        real = new Archiveparts();
        model = new Model();
        if (form == 3) {
            fill();
        }
        for (calls = 0; calls < CALLS && wrong < 5; ) {
            step();
        }
    }

    /** Makes nearly all parts and relations with short names, to leave calls for what is done with them. */
    private void fill() {
        int parts = 24 + below(7);
        for (int i = 0; i < parts; i++) {
            typeText(i < 20 ? "" + (char) ('a' + i) : "z/" + (i - 20));
            both("part(0)", () -> real.part(0), () -> model.part(0));
        }
        for (int i = 0; i < 50; i++) {
            typeText("" + (char) ('a' + below(20)));
            int from = below(31) - 1;
            boolean isRelative = below(2) == 0;
            both("relate(" + from + ", 0, " + isRelative + ", 0)",
                () -> real.relate(from, 0, isRelative, 0), () -> model.relate(from, 0, isRelative, 0));
        }
    }

    private static Object answer(Call call) {
        try {
            return call.run();
        } catch (RuntimeException e) {
            return "throws." + e.getClass().getSimpleName();
        }
    }

    private void both(String what, Call ofReal, Call ofModel) {
        if (calls >= CALLS) {
            return;
        }
        calls++;
        Object got = answer(ofReal);
        Object want = answer(ofModel);
        told.append(what).append(" -> ").append(got).append('\n');
        String method = what.substring(0, what.indexOf('('));
        seen.merge(method + (want.toString().startsWith("throws.") ? " " + want : ""), 1, Integer::sum);
        if (!got.equals(want)) {
            wrong++;
            System.out.println(told + "run " + run + ": " + what + " answered " + got + ", due is " + want);
        }
    }

    private void typeText(String text) {
        for (char sign : text.toCharArray()) {
            both("type(" + sign + ")", () -> real.type(sign), () -> model.type(sign));
        }
    }

    private void typeSome() {
        if (below(12) > 0) {
            both("wipe()", () -> real.wipe(), () -> model.wipe());
        }
        typeText(below(14) == 0 ? badText() : goodText());
    }

    private String goodText() {
        if (below(4) == 0 && !model.parts.isEmpty()) {
            List<Model.Part> all = new ArrayList<>(model.parts.values());
            List<String> pieces = all.get(below(all.size())).pieces;
            return String.join("/", pieces.subList(0, 1 + below(pieces.size())));
        }
        String[] crowded = {"a", "b", "c.x", "d"};
        String[] wide = {"a", "b", "c", "d.y", "e.x", "f", "g.xy", "h", "i", "abcdefgh"};
        String[] from = form == 0 ? crowded : wide;
        int pieces = form == 2 ? 1 + below(2) : 1 + below(4);
        StringBuilder text = new StringBuilder();
        for (int i = 0; i < pieces; i++) {
            text.append(i == 0 ? "" : "/").append(from[below(from.length)]);
        }
        return text.toString();
    }

    private String badText() {
        String[] bad = {"", "/", ".", "a/", "/a", "a//b", "a.", ".a", "a..b", "a/.b", "a./b", "abcdefghi", "a/b/c/d/e",
            "A", "a b", "-", "a/b/c/d", "abcdefgh/abcdefgh/abcdefgh/abcdefgh/abcdefgh", "x", "xy", "abcdef", "abcdefg", "a.b.c"};
        return bad[below(bad.length)];
    }

    private int anyPart() {
        if (below(15) == 0) {
            return below(40) - 5;
        }
        return below(Math.max(1, model.made));
    }

    private int anyRelation() {
        if (below(15) == 0) {
            return below(70) - 5;
        }
        return below(Math.max(1, model.related));
    }

    private int anyKind() {
        return below(10) == 0 ? below(30) - 10 : below(11) - 1;
    }

    private int anyOrigin() {
        return below(4) == 0 ? -1 : anyPart();
    }

    private int anyContent() {
        int[] edges = {0, 1, -1, Integer.MAX_VALUE, Integer.MIN_VALUE, 77};
        return below(3) == 0 ? edges[below(edges.length)] : below(1000) * 1000003;
    }

    private void step() {
        int kind = below(40);
        if (kind < 7) {
            stepPart();
        } else if (kind < 16) {
            stepRelate();
        } else if (kind < 23) {
            stepRewrite();
        } else if (kind < 27) {
            stepDamage();
        } else if (kind < 30) {
            stepKind();
        } else if (kind < 31) {
            stepLose();
        } else {
            stepLook();
        }
    }

    private void stepPart() {
        if (below(6) == 0) {
            int part = anyPart();
            int content = anyContent();
            both("set(" + part + ", " + content + ")", () -> real.set(part, content), () -> model.set(part, content));
            return;
        }
        typeSome();
        int content = anyContent();
        both("part(" + content + ")", () -> real.part(content), () -> model.part(content));
    }

    private void stepRelate() {
        int from = anyOrigin();
        int sort = below(12) == 0 ? below(30) - 10 : below(10);
        if (below(8) == 0) {
            int target = anyContent();
            both("outer(" + from + ", " + sort + ", " + target + ")",
                () -> real.outer(from, sort, target), () -> model.outer(from, sort, target));
            return;
        }
        boolean isRelative = below(3) > 0;
        int up = below(15) == 0 ? below(9) - 3 : isRelative ? below(2) * below(4) : 0;
        if (below(2) == 0 && !model.parts.isEmpty() && (from == -1 || model.parts.containsKey(from))) {
            aimAtPart(from, isRelative, up);
        } else {
            typeSome();
        }
        both("relate(" + from + ", " + sort + ", " + isRelative + ", " + up + ")",
            () -> real.relate(from, sort, isRelative, up), () -> model.relate(from, sort, isRelative, up));
    }

    /** Types a name that leads to a part, if the steps allow it: else most relations would be broken. */
    private void aimAtPart(int from, boolean isRelative, int up) {
        List<Model.Part> all = new ArrayList<>(model.parts.values());
        List<String> goal = all.get(below(all.size())).pieces;
        both("wipe()", () -> real.wipe(), () -> model.wipe());
        int skip = 0;
        if (isRelative && from != -1 && up >= 0) {
            List<String> origin = model.parts.get(from).pieces;
            int left = origin.size() - 1 - up;
            if (left > 0 && left < goal.size() && goal.subList(0, left).equals(origin.subList(0, left))) {
                skip = left;
            }
        }
        typeText(String.join("/", goal.subList(skip, goal.size())));
    }

    private void stepRewrite() {
        int part = anyPart();
        int which = below(5);
        if (which < 2) {
            typeSome();
            both("rename(" + part + ")", () -> real.rename(part), () -> model.rename(part));
        } else if (which < 4) {
            typeSome();
            int pieces = below(8) == 0 ? below(9) - 3 : 1 + below(3);
            both("renameFolder(" + part + ", " + pieces + ")",
                () -> real.renameFolder(part, pieces), () -> model.renameFolder(part, pieces));
        } else {
            int other = anyPart();
            both("exchange(" + part + ", " + other + ")",
                () -> real.exchange(part, other), () -> model.exchange(part, other));
        }
    }

    private void stepDamage() {
        int part = anyPart();
        int which = below(5);
        if (which == 0) {
            typeSome();
            both("damageName(" + part + ")", () -> real.damageName(part), () -> model.damageName(part));
        } else if (which == 1) {
            int content = anyContent();
            both("damageContent(" + part + ", " + content + ")",
                () -> real.damageContent(part, content), () -> model.damageContent(part, content));
        } else if (which == 2) {
            typeSome();
            int relation = anyRelation();
            both("damageRelation(" + relation + ")",
                () -> real.damageRelation(relation), () -> model.damageRelation(relation));
        } else if (which == 3) {
            both("isHurt(" + part + ")", () -> real.isHurt(part), () -> model.isHurt(part));
        } else {
            both("mend(" + part + ")", () -> real.mend(part), () -> model.mend(part));
        }
    }

    private void stepKind() {
        int part = anyPart();
        int kind = anyKind();
        int which = below(4);
        if (which == 0) {
            both("wipe()", () -> real.wipe(), () -> model.wipe());
            String[] texts = {"x", "y", "xy", "abcdef", "abcdefg", "x.y", "a/b", "", "9"};
            typeText(texts[below(texts.length)]);
            both("ending(" + kind + ")", () -> real.ending(kind), () -> model.ending(kind));
        } else if (which == 1) {
            both("override(" + part + ", " + kind + ")",
                () -> real.override(part, kind), () -> model.override(part, kind));
        } else {
            both("kind(" + part + ")", () -> real.kind(part), () -> model.kind(part));
        }
    }

    private void stepLose() {
        if (below(2) == 0) {
            int part = anyPart();
            both("drop(" + part + ")", () -> real.drop(part), () -> model.drop(part));
        } else {
            int relation = anyRelation();
            both("unrelate(" + relation + ")", () -> real.unrelate(relation), () -> model.unrelate(relation));
        }
    }

    private void stepLook() {
        int part = anyPart();
        int relation = anyRelation();
        int place = below(10) == 0 ? below(50) - 5 : below(12);
        switch (below(21)) {
            case 0: both("name(" + part + ", " + place + ")", () -> real.name(part, place), () -> model.name(part, place)); break;
            case 1: typeSome(); both("find()", () -> real.find(), () -> model.find()); break;
            case 2: both("content(" + part + ")", () -> real.content(part), () -> model.content(part)); break;
            case 3: both("target(" + relation + ")", () -> real.target(relation), () -> model.target(relation)); break;
            case 4: case 5:
                char what = "fsruboqF".charAt(below(8));
                both("of(" + relation + ", " + what + ")", () -> real.of(relation, what), () -> model.of(relation, what));
                break;
            case 6: case 7:
                both("written(" + relation + ", " + place + ")",
                    () -> real.written(relation, place), () -> model.written(relation, place));
                break;
            case 8: both("outside(" + relation + ")", () -> real.outside(relation), () -> model.outside(relation)); break;
            case 9: both("mark(" + part + ")", () -> real.mark(part), () -> model.mark(part)); break;
            case 10: both("parts()", () -> real.parts(), () -> model.parts.size()); break;
            case 11:
                char which = "aiobx".charAt(below(5));
                both("relations(" + which + ")", () -> real.relations(which), () -> model.relations(which));
                break;
            case 12: both("walked()", () -> real.walked(), () -> model.walk().size()); break;
            case 13: both("walkAt(" + place + ")", () -> real.walkAt(place), () -> model.walkAt(place)); break;
            case 14: both("orphans()", () -> real.orphans(), () -> model.parts.size() - model.walk().size()); break;
            case 15: both("circles()", () -> real.circles(), () -> model.circles().size()); break;
            case 16: both("isInCircle(" + part + ")", () -> real.isInCircle(part), () -> model.isInCircle(part)); break;
            case 17: typeSome(); both("below()", () -> real.below(), () -> model.below()); break;
            case 18: both("checksum()", () -> real.checksum(), () -> model.checksum()); break;
            case 19: both("brokenShare()", () -> real.brokenShare(), () -> model.brokenShare()); break;
            default:
                both("meanPieces()", () -> real.meanPieces(), () -> model.meanPieces());
                both("isSound()", () -> real.isSound(), () -> true);
        }
    }

    /** The document, told as plainly as can be. */
    private static final class Model {
        private static final class Part {
            List<String> pieces;
            int content;
            int own = -1;
            int mark;

            String text() {
                return String.join("/", pieces);
            }

            List<String> folder() {
                return pieces.subList(0, pieces.size() - 1);
            }

            int right() {
                int sum = 7;
                for (char sign : text().toCharArray()) {
                    sum = 31 * sum + sign;
                }
                return 31 * sum + content;
            }
        }

        private static final class Relation {
            int from;
            int sort;
            boolean isOuter;
            int number;
            boolean isRelative;
            int up;
            List<String> pieces;
        }

        final TreeMap<Integer, Part> parts = new TreeMap<>();
        final TreeMap<Integer, Relation> relations = new TreeMap<>();
        final Map<String, Integer> endings = new HashMap<>();
        String typed = "";
        int made = 0;
        int related = 0;

        int type(char sign) {
            if ("abcdefghijklmnopqrstuvwxyz0123456789./".indexOf(sign) < 0) {
                throw new IllegalArgumentException();
            }
            if (typed.length() == 40) {
                throw new IllegalStateException();
            }
            typed += sign;
            return typed.length();
        }

        int wipe() {
            int before = typed.length();
            typed = "";
            return before;
        }

        List<String> typedName() {
            if (!typed.matches("P(/P){0,3}".replace("P", "(?=[a-z0-9.]{1,8}(/|$))[a-z0-9]+(\\.[a-z0-9]+)*"))) {
                throw new UnsupportedOperationException();
            }
            return Arrays.asList(typed.split("/"));
        }

        static boolean isAhead(List<String> head, List<String> name) {
            return name.size() >= head.size() && name.subList(0, head.size()).equals(head);
        }

        void free(List<String> name, Set<Integer> but) {
            for (Map.Entry<Integer, Part> each : parts.entrySet()) {
                List<String> other = each.getValue().pieces;
                if (!but.contains(each.getKey()) && (isAhead(other, name) || isAhead(name, other))) {
                    throw new UnsupportedOperationException();
                }
            }
        }

        Part partOf(int part) {
            if (!parts.containsKey(part)) {
                throw new IndexOutOfBoundsException();
            }
            return parts.get(part);
        }

        Relation relationOf(int relation) {
            if (!relations.containsKey(relation)) {
                throw new IndexOutOfBoundsException();
            }
            return relations.get(relation);
        }

        int part(int content) {
            List<String> name = typedName();
            free(name, Set.of());
            if (made == 30) {
                throw new IllegalStateException();
            }
            Part part = new Part();
            part.pieces = name;
            part.content = content;
            part.mark = part.right();
            parts.put(made, part);
            typed = "";
            return made++;
        }

        int drop(int part) {
            partOf(part);
            relations.values().removeIf(each -> each.from == part);
            int broken = 0;
            for (Relation each : relations.values()) {
                broken += leads(each) == part ? 1 : 0;
            }
            parts.remove(part);
            return broken;
        }

        char name(int part, int place) {
            String text = partOf(part).text();
            if (place < 0 || place >= text.length()) {
                throw new NoSuchElementException();
            }
            return text.charAt(place);
        }

        int find() {
            return named(typedName());
        }

        int named(List<String> name) {
            for (Map.Entry<Integer, Part> each : parts.entrySet()) {
                if (each.getValue().pieces.equals(name)) {
                    return each.getKey();
                }
            }
            return -1;
        }

        int content(int part) {
            return partOf(part).content;
        }

        int set(int part, int content) {
            int before = damageContent(part, content);
            partOf(part).mark = partOf(part).right();
            return before;
        }

        int damageContent(int part, int content) {
            int before = partOf(part).content;
            partOf(part).content = content;
            return before;
        }

        int ending(int kind) {
            if (kind < -1 || kind > 9) {
                throw new IllegalArgumentException();
            }
            if (!typed.matches("[a-z0-9]{1,6}")) {
                throw new UnsupportedOperationException();
            }
            Integer before = endings.put(typed, kind);
            typed = "";
            return before == null ? -1 : before;
        }

        int override(int part, int kind) {
            Part chosen = partOf(part);
            if (kind < -1 || kind > 9) {
                throw new IllegalArgumentException();
            }
            int before = chosen.own;
            chosen.own = kind;
            return before;
        }

        int kind(int part) {
            Part chosen = partOf(part);
            String last = chosen.pieces.get(chosen.pieces.size() - 1);
            int kind = chosen.own;
            if (kind < 0 && last.contains(".")) {
                kind = endings.getOrDefault(last.substring(last.lastIndexOf('.') + 1), -1);
            }
            if (kind < 0) {
                throw new NoSuchElementException();
            }
            return kind;
        }

        int relate(int from, int sort, boolean isRelative, int up) {
            if (from != -1) {
                partOf(from);
            }
            if (sort < 0 || sort > 9 || up < 0 || up > 3 || !isRelative && up != 0) {
                throw new IllegalArgumentException();
            }
            List<String> name = typedName();
            if (related == 60) {
                throw new IllegalStateException();
            }
            Relation made = new Relation();
            made.from = from;
            made.sort = sort;
            made.isRelative = isRelative;
            made.up = up;
            made.pieces = name;
            typed = "";
            relations.put(related, made);
            return related++;
        }

        int outer(int from, int sort, int target) {
            if (from != -1) {
                partOf(from);
            }
            if (sort < 0 || sort > 9) {
                throw new IllegalArgumentException();
            }
            if (related == 60) {
                throw new IllegalStateException();
            }
            Relation made = new Relation();
            made.from = from;
            made.sort = sort;
            made.isOuter = true;
            made.number = target;
            relations.put(related, made);
            return related++;
        }

        List<String> originFolder(Relation relation) {
            return relation.from == -1 ? List.of() : parts.get(relation.from).folder();
        }

        int leads(Relation relation) {
            if (relation.isOuter) {
                return -1;
            }
            List<String> name = new ArrayList<>();
            if (relation.isRelative) {
                name.addAll(originFolder(relation));
                for (int i = 0; i < relation.up; i++) {
                    if (name.isEmpty()) {
                        return -1;
                    }
                    name.remove(name.size() - 1);
                }
            }
            name.addAll(relation.pieces);
            return named(name);
        }

        TreeMap<Integer, Integer> allLeads() {
            TreeMap<Integer, Integer> all = new TreeMap<>();
            relations.forEach((number, each) -> all.put(number, leads(each)));
            return all;
        }

        int unrelate(int relation) {
            int led = leads(relationOf(relation));
            relations.remove(relation);
            return led;
        }

        int target(int relation) {
            int led = leads(relationOf(relation));
            if (led < 0) {
                throw new NoSuchElementException();
            }
            return led;
        }

        int of(int relation, char what) {
            Relation chosen = relationOf(relation);
            switch (what) {
                case 'f': return chosen.from;
                case 's': return chosen.sort;
                case 'r': return chosen.isRelative ? 1 : 0;
                case 'u': return chosen.up;
                case 'b': return !chosen.isOuter && leads(chosen) < 0 ? 1 : 0;
                case 'o': return chosen.isOuter ? 1 : 0;
                default: throw new IllegalArgumentException();
            }
        }

        char written(int relation, int place) {
            Relation chosen = relationOf(relation);
            String text = chosen.isOuter ? "" : String.join("/", chosen.pieces);
            if (place < 0 || place >= text.length()) {
                throw new NoSuchElementException();
            }
            return text.charAt(place);
        }

        int outside(int relation) {
            if (!relationOf(relation).isOuter) {
                throw new NoSuchElementException();
            }
            return relations.get(relation).number;
        }

        void write(Relation relation, int goal) {
            List<String> name = parts.get(goal).pieces;
            if (!relation.isRelative) {
                relation.pieces = name;
                return;
            }
            List<String> folder = originFolder(relation);
            for (int up = 0; up <= folder.size(); up++) {
                List<String> left = folder.subList(0, folder.size() - up);
                if (isAhead(left, name) && name.size() > left.size()) {
                    relation.up = up;
                    relation.pieces = new ArrayList<>(name.subList(left.size(), name.size()));
                    return;
                }
            }
        }

        int move(Map<Integer, List<String>> to) {
            TreeMap<Integer, Integer> before = allLeads();
            to.forEach((part, name) -> {
                parts.get(part).pieces = name;
                parts.get(part).mark = parts.get(part).right();
            });
            int count = 0;
            for (Map.Entry<Integer, Relation> each : relations.entrySet()) {
                int led = before.get(each.getKey());
                Relation relation = each.getValue();
                if (to.containsKey(led) || led >= 0 && relation.isRelative && to.containsKey(relation.from)) {
                    write(relation, led);
                    count++;
                }
            }
            typed = "";
            return count;
        }

        int rename(int part) {
            partOf(part);
            List<String> name = typedName();
            free(name, Set.of(part));
            return move(Map.of(part, name));
        }

        int renameFolder(int part, int pieces) {
            Part chosen = partOf(part);
            if (pieces < 1 || pieces > 3 || pieces >= chosen.pieces.size()) {
                throw new IllegalArgumentException();
            }
            List<String> to = typedName();
            List<String> folder = new ArrayList<>(chosen.pieces.subList(0, pieces));
            Map<Integer, List<String>> names = new TreeMap<>();
            parts.forEach((number, each) -> {
                if (each.pieces.size() > pieces && isAhead(folder, each.pieces)) {
                    List<String> name = new ArrayList<>(to);
                    name.addAll(each.pieces.subList(pieces, each.pieces.size()));
                    names.put(number, name);
                }
            });
            for (List<String> name : names.values()) {
                if (name.size() > 4) {
                    throw new UnsupportedOperationException();
                }
                free(name, names.keySet());
            }
            int other = 0;
            for (Map.Entry<Integer, List<String>> each : names.entrySet()) {
                other += parts.get(each.getKey()).pieces.equals(each.getValue()) ? 0 : 1;
            }
            move(names);
            return other;
        }

        int exchange(int part, int other) {
            Part one = partOf(part);
            Part another = partOf(other);
            if (part == other) {
                throw new IllegalArgumentException();
            }
            TreeMap<Integer, Integer> before = allLeads();
            int content = one.content;
            set(part, another.content);
            set(other, content);
            int count = 0;
            for (Map.Entry<Integer, Integer> each : before.entrySet()) {
                if (each.getValue() == part || each.getValue() == other) {
                    write(relations.get(each.getKey()), part + other - each.getValue());
                    count++;
                }
            }
            return count;
        }

        int damageName(int part) {
            Part chosen = partOf(part);
            List<String> name = typedName();
            free(name, Set.of(part));
            TreeMap<Integer, Integer> before = allLeads();
            chosen.pieces = name;
            typed = "";
            int count = 0;
            for (Map.Entry<Integer, Integer> each : allLeads().entrySet()) {
                count += before.get(each.getKey()).equals(each.getValue()) ? 0 : 1;
            }
            return count;
        }

        boolean damageRelation(int relation) {
            Relation chosen = relationOf(relation);
            if (chosen.isOuter) {
                throw new UnsupportedOperationException();
            }
            chosen.pieces = typedName();
            typed = "";
            return leads(chosen) < 0;
        }

        boolean isHurt(int part) {
            return partOf(part).mark != partOf(part).right();
        }

        int mend(int part) {
            if (!isHurt(part)) {
                throw new UnsupportedOperationException();
            }
            parts.get(part).mark = parts.get(part).right();
            int hurt = 0;
            for (int each : parts.keySet()) {
                hurt += isHurt(each) ? 1 : 0;
            }
            return hurt;
        }

        int mark(int part) {
            return partOf(part).mark;
        }

        int relations(char which) {
            int inner = 0;
            int outer = 0;
            int broken = 0;
            for (Relation each : relations.values()) {
                if (each.isOuter) {
                    outer++;
                } else if (leads(each) < 0) {
                    broken++;
                } else {
                    inner++;
                }
            }
            switch (which) {
                case 'a': return inner + outer + broken;
                case 'i': return inner;
                case 'o': return outer;
                case 'b': return broken;
                default: throw new IllegalArgumentException();
            }
        }

        List<Integer> walk() {
            LinkedHashSet<Integer> come = new LinkedHashSet<>();
            List<Integer> queue = new ArrayList<>(List.of(-1));
            for (int i = 0; i < queue.size(); i++) {
                for (Relation each : relations.values()) {
                    int led = leads(each);
                    if (each.from == queue.get(i) && led >= 0 && come.add(led)) {
                        queue.add(led);
                    }
                }
            }
            return new ArrayList<>(come);
        }

        int walkAt(int index) {
            List<Integer> walk = walk();
            if (index < 0 || index >= walk.size()) {
                throw new NoSuchElementException();
            }
            return walk.get(index);
        }

        void reach(int from, Set<Integer> come) {
            for (Relation each : relations.values()) {
                int led = each.from == from ? leads(each) : -1;
                if (led >= 0 && come.add(led)) {
                    reach(led, come);
                }
            }
        }

        Set<Set<Integer>> circles() {
            Map<Integer, Set<Integer>> reached = new TreeMap<>();
            for (int part : parts.keySet()) {
                Set<Integer> come = new TreeSet<>();
                reach(part, come);
                reached.put(part, come);
            }
            Set<Set<Integer>> circles = new LinkedHashSet<>();
            for (int part : parts.keySet()) {
                Set<Integer> circle = new TreeSet<>();
                for (int other : reached.get(part)) {
                    if (reached.get(other).contains(part)) {
                        circle.add(other);
                    }
                }
                if (!circle.isEmpty()) {
                    circles.add(circle);
                }
            }
            return circles;
        }

        boolean isInCircle(int part) {
            partOf(part);
            for (Set<Integer> circle : circles()) {
                if (circle.contains(part)) {
                    return true;
                }
            }
            return false;
        }

        int below() {
            List<String> folder = typedName();
            int count = 0;
            for (Part each : parts.values()) {
                count += each.pieces.size() > folder.size() && isAhead(folder, each.pieces) ? 1 : 0;
            }
            return count;
        }

        long checksum() {
            long sum = 7;
            for (Part each : parts.values()) {
                sum = 31 * (31 * sum + each.content) + each.mark;
            }
            for (Relation each : relations.values()) {
                sum = 31 * sum + leads(each);
            }
            return sum;
        }

        float brokenShare() {
            if (relations.isEmpty()) {
                throw new ArithmeticException();
            }
            return (float) relations('b') / (float) relations.size();
        }

        double meanPieces() {
            if (parts.isEmpty()) {
                throw new ArithmeticException();
            }
            int pieces = 0;
            for (Part each : parts.values()) {
                pieces += each.pieces.size();
            }
            return (double) pieces / (double) parts.size();
        }
    }
}
