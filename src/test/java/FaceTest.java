import java.lang.reflect.Constructor;
import java.lang.reflect.Field;
import java.lang.reflect.Member;
import java.lang.reflect.Method;
import java.lang.reflect.Modifier;
import java.util.Set;
import java.util.TreeSet;

/** The class shows the document's face and nothing else (LANGUAGE.md, rules 1, 2, 5 and 11). */
public final class FaceTest {
    private static final String I = " throws IndexOutOfBoundsException";
    private static final String A = " throws IllegalArgumentException";
    private static final String IA = " throws IndexOutOfBoundsException, IllegalArgumentException";

    private static final String[] FACE = {
        "int set(int, int, int)" + IA,
        "int go(int, int, int, boolean)" + IA,
        "int copy(int, int)" + I,
        "int swap(int, int)" + I,
        "int pick(boolean, int)" + I,
        "int shift(int, int)" + A,
        "int open(int, int)" + I,
        "int book(int, int, boolean)" + I,
        "int unbook(int)" + I,
        "int empty()",
        "int move(int, int, int)" + IA,
        "int stretch(int, int, int)" + IA,
        "int fit(int, int, int, int)" + IA,
        "int wish(int, int)" + I,
        "int unwish(int)" + I,
        "int grant(int)" + I,
        "int second(int)" + I,
        "int nano(int)" + I,
        "String text(int)" + I,
        "int order(int, int)" + I,
        "boolean isBefore(int, int)" + I,
        "boolean isAfter(int, int)" + I,
        "boolean same(int, int, int)" + IA,
        "int apart(int, int, int)" + IA,
        "int calendar(int)" + A,
        "int spans()",
        "int ofSpan(int, int)" + IA,
        "boolean meets(int, int)" + I,
        "int clashes()",
        "int at(int)" + I,
        "int deepest()",
        "boolean isFree(int, int)" + I,
        "int frees()",
        "int ofFree(int, int)" + IA,
        "int freeAt(int)" + I,
        "int length(int)" + A,
        "int wishes()",
        "int ofWish(int, int)" + IA,
        "boolean isApart(int)" + A,
        "int chosen()",
        "int most(int)" + A,
        "int crowd()",
        "int room(int)" + I,
        "int rooms()",
        "int house(int)" + A,
        "int knock()",
        "boolean isSound()",
        "long digest()",
    };

    private FaceTest() {
    }

    public static void main(String[] args) {
        dueFace();
        dueMembers();
        dueClassesInside();
        Checks.end("FaceTest");
    }

    private static String types(Class<?>[] types) {
        StringBuilder all = new StringBuilder();
        for (Class<?> type : types) {
            all.append(all.length() == 0 ? "" : ", ").append(type.getSimpleName());
        }
        return all.toString();
    }

    private static String signature(Method method) {
        String thrown = types(method.getExceptionTypes());
        return method.getReturnType().getSimpleName() + " " + method.getName() + "("
                + types(method.getParameterTypes()) + ")" + (thrown.isEmpty() ? "" : " throws " + thrown);
    }

    private static void dueFace() {
        Set<String> shown = new TreeSet<>();
        for (Method method : Spanbooker.class.getDeclaredMethods()) {
            if (Modifier.isPublic(method.getModifiers())) {
                shown.add(signature(method));
                Checks.same("static " + method, false, Modifier.isStatic(method.getModifiers()));
            }
        }
        Checks.same("the face", new TreeSet<>(Set.of(FACE)), shown);
        Constructor<?>[] made = Spanbooker.class.getDeclaredConstructors();
        Checks.same("constructors", 1, made.length);
        Checks.same("constructor", "public Spanbooker()", made[0].toString());
        Checks.same("class", Modifier.PUBLIC | Modifier.FINAL, Spanbooker.class.getModifiers());
    }

    private static boolean isHidden(Member member) {
        return Modifier.isPrivate(member.getModifiers());
    }

    private static void dueMembers() {
        Set<String> names = new TreeSet<>();
        for (String signature : FACE) {
            names.add(signature.substring(signature.indexOf(' ') + 1, signature.indexOf('(')));
        }
        for (Method method : Spanbooker.class.getDeclaredMethods()) {
            if (!Modifier.isPublic(method.getModifiers())) {
                Checks.same("private " + method, true, isHidden(method));
                Checks.same("a face's name on " + method, false, names.contains(method.getName()));
            }
        }
        for (Field field : Spanbooker.class.getDeclaredFields()) {
            Checks.same("private " + field, true, isHidden(field));
            boolean isStatic = Modifier.isStatic(field.getModifiers());
            Checks.same("final " + field, true, !isStatic || Modifier.isFinal(field.getModifiers()));
        }
    }

    private static void dueFewOfEach(Class<?> owner) {
        int fields = 0;
        for (Field field : owner.getDeclaredFields()) {
            fields += Modifier.isStatic(field.getModifiers()) ? 0 : 1;
        }
        Checks.same("fields of " + owner, true, fields <= 20);
        for (Method method : owner.getDeclaredMethods()) {
            Checks.same("parameters of " + method, true, method.getParameterCount() <= 7);
        }
    }

    private static void dueClassesInside() {
        Class<?>[] all = Spanbooker.class.getDeclaredClasses();
        Checks.same("how many classes: " + all.length + ", at most 11 in the one", true, all.length <= 11);
        dueFewOfEach(Spanbooker.class);
        for (Class<?> inside : all) {
            dueFewOfEach(inside);
            int modifiers = inside.getModifiers();
            Checks.same("static " + inside, true, Modifier.isStatic(modifiers));
            Checks.same("shown " + inside, false, Modifier.isPublic(modifiers) || Modifier.isProtected(modifiers));
        }
    }
}
