import java.lang.reflect.Constructor;
import java.lang.reflect.Field;
import java.lang.reflect.Member;
import java.lang.reflect.Method;
import java.lang.reflect.Modifier;
import java.util.Arrays;
import java.util.Set;
import java.util.TreeSet;

/** Checks the face of the class: its public members are those of the document, and no others are open. */
public final class ArchivepartsFaceTest {
    private static final String[] FACE = {
        "int type(char) IllegalArgumentException IllegalStateException",
        "int wipe()",
        "int part(int) IllegalStateException UnsupportedOperationException",
        "int drop(int) IndexOutOfBoundsException",
        "char name(int,int) IndexOutOfBoundsException NoSuchElementException",
        "int find() UnsupportedOperationException",
        "int content(int) IndexOutOfBoundsException",
        "int set(int,int) IndexOutOfBoundsException",
        "int ending(int) IllegalArgumentException UnsupportedOperationException",
        "int override(int,int) IllegalArgumentException IndexOutOfBoundsException",
        "int kind(int) IndexOutOfBoundsException NoSuchElementException",
        "int relate(int,int,boolean,int) IllegalArgumentException IllegalStateException IndexOutOfBoundsException UnsupportedOperationException",
        "int outer(int,int,int) IllegalArgumentException IllegalStateException IndexOutOfBoundsException",
        "int unrelate(int) IndexOutOfBoundsException",
        "int target(int) IndexOutOfBoundsException NoSuchElementException",
        "int of(int,char) IllegalArgumentException IndexOutOfBoundsException",
        "char written(int,int) IndexOutOfBoundsException NoSuchElementException",
        "int outside(int) IndexOutOfBoundsException NoSuchElementException",
        "int rename(int) IndexOutOfBoundsException UnsupportedOperationException",
        "int renameFolder(int,int) IllegalArgumentException IndexOutOfBoundsException UnsupportedOperationException",
        "int exchange(int,int) IllegalArgumentException IndexOutOfBoundsException",
        "int damageName(int) IndexOutOfBoundsException UnsupportedOperationException",
        "int damageContent(int,int) IndexOutOfBoundsException",
        "boolean damageRelation(int) IndexOutOfBoundsException UnsupportedOperationException",
        "boolean isHurt(int) IndexOutOfBoundsException",
        "int mend(int) IndexOutOfBoundsException UnsupportedOperationException",
        "int mark(int) IndexOutOfBoundsException",
        "int parts()",
        "int relations(char) IllegalArgumentException",
        "int walked()",
        "int walkAt(int) NoSuchElementException",
        "int orphans()",
        "int circles()",
        "boolean isInCircle(int) IndexOutOfBoundsException",
        "int below() UnsupportedOperationException",
        "long checksum()",
        "float brokenShare() ArithmeticException",
        "double meanPieces() ArithmeticException",
        "boolean isSound()",
    };

    private static int wrong = 0;

    public static void main(String[] args) {
        Class<?> type = Archiveparts.class;
        check(type.getModifiers() == (Modifier.PUBLIC | Modifier.FINAL), "the class is public and final");
        Constructor<?>[] constructors = type.getDeclaredConstructors();
        check(constructors.length == 1 && constructors[0].getModifiers() == Modifier.PUBLIC
            && constructors[0].getParameterCount() == 0, "one public constructor");
        Set<String> found = new TreeSet<>();
        Set<String> names = new TreeSet<>();
        for (Method method : type.getDeclaredMethods()) {
            if (Modifier.isPublic(method.getModifiers())) {
                check(method.getModifiers() == Modifier.PUBLIC, "plainly public: " + method);
                found.add(signature(method));
                names.add(method.getName());
            }
        }
        check(found.equals(new TreeSet<>(Arrays.asList(FACE))), "the face, found is " + found);
        checkHidden(type.getDeclaredMethods(), names);
        checkHidden(type.getDeclaredFields(), new TreeSet<>());
        for (Class<?> inner : type.getDeclaredClasses()) {
            checkHidden(inner.getDeclaredMethods(), names, true);
            checkStatics(inner.getDeclaredFields());
        }
        checkStatics(type.getDeclaredFields());
        System.out.println(wrong == 0 ? "face: as the document says" : "face: " + wrong + " faults");
        if (wrong != 0) {
            System.exit(1);
        }
    }

    private static void check(boolean holds, String what) {
        if (!holds) {
            wrong++;
            System.out.println("does not hold: " + what);
        }
    }

    private static void checkHidden(Member[] members, Set<String> names) {
        checkHidden(members, names, false);
    }

    private static void checkHidden(Member[] members, Set<String> names, boolean isInside) {
        for (Member member : members) {
            boolean isPublic = Modifier.isPublic(member.getModifiers());
            check(isInside || isPublic || Modifier.isPrivate(member.getModifiers()), "public or private: " + member);
            check(!isPublic || !isInside && names.contains(member.getName()), "no public member beside the face: " + member);
            check(isPublic || !names.contains(member.getName()), "no hidden method with a name of the face: " + member);
        }
    }

    private static void checkStatics(Field[] fields) {
        for (Field field : fields) {
            boolean isStatic = Modifier.isStatic(field.getModifiers());
            check(!isStatic || Modifier.isFinal(field.getModifiers()), "a static field is final: " + field);
        }
    }

    private static String signature(Method method) {
        StringBuilder text = new StringBuilder(method.getReturnType().getSimpleName());
        text.append(' ').append(method.getName()).append('(');
        for (int i = 0; i < method.getParameterCount(); i++) {
            text.append(i == 0 ? "" : ",").append(method.getParameterTypes()[i].getSimpleName());
        }
        text.append(')');
        Set<String> thrown = new TreeSet<>();
        for (Class<?> each : method.getExceptionTypes()) {
            thrown.add(each.getSimpleName());
        }
        for (String each : thrown) {
            text.append(' ').append(each);
        }
        return text.toString();
    }
}
