import java.lang.reflect.Constructor;
import java.lang.reflect.Field;
import java.lang.reflect.Member;
import java.lang.reflect.Method;
import java.lang.reflect.Modifier;
import java.util.ArrayList;
import java.util.HashSet;
import java.util.List;
import java.util.Set;
import java.util.TreeSet;

/** The public face is the document's, to the throws clauses, and nothing else can be seen from outside. */
public final class FaceTest {
    private static final String OUT = "IndexOutOfBoundsException";
    private static final String BAD = "IllegalArgumentException";
    private static final String NOW = "IllegalStateException";
    private static final int MOST_PARAMETERS = 7;
    private static final int MOST_FIELDS = 20;
    private static final Check check = new Check("FaceTest");

    public static void main(String[] args) {
        Class<?> face = QuizFixtures.class;
        check.due("public and final", face.getModifiers(), Modifier.PUBLIC | Modifier.FINAL);
        check.dueTrue("no package", face.getPackageName().isEmpty());
        check.due("NONE", QuizFixtures.NONE, -1);
        methods(face);
        fields(face);
        constructors(face);
        classesInside(face);
        isSmall(face);
        check.end();
    }

    private static void methods(Class<?> face) {
        Set<String> due = new TreeSet<>(List.of(
            "int begin(int) " + BAD, "int close(int, int) " + OUT + " " + BAD, "int away(int, int) " + OUT + " " + BAD,
            "int stage()", "int score(int, int, int) " + OUT + " " + BAD + " " + NOW,
            "int walkover(int, boolean) " + OUT + " " + NOW, "int annul(int) " + OUT,
            "int set(int, int) " + OUT + " " + BAD, "int append(int) " + BAD + " " + NOW, "int clearBuffer()",
            "int firstError()", "int report() " + BAD + " " + NOW, "int undo() " + NOW,
            "int match(int, int) " + OUT + " " + BAD, "int team(int, int) " + OUT + " " + BAD, "int table(int) " + BAD,
            "int busy(int, int) " + OUT + " " + BAD, "int count(int) " + BAD, "int setting(int) " + OUT,
            "int meeting(int, int) " + OUT + " " + BAD, "int bestPlace(int) " + OUT, "int isSure(int) " + OUT,
            "int ifMissing(int) " + BAD, "double closeness()", "long digest()"));
        Set<String> got = new TreeSet<>();
        Set<String> hidden = new HashSet<>();
        Set<String> shown = new HashSet<>();
        for (Method method : face.getDeclaredMethods()) {
            if (Modifier.isPublic(method.getModifiers())) {
                got.add(describe(method));
                shown.add(method.getName());
                check.due("modifiers of " + method.getName(), method.getModifiers(), Modifier.PUBLIC);
            } else {
                hidden.add(method.getName());
                isPrivate(method);
            }
        }
        check.dueTrue("the methods " + got, got.equals(due));
        hidden.retainAll(shown);
        check.dueTrue("private methods with a public one's name: " + hidden, hidden.isEmpty());
    }

    private static String describe(Method method) {
        List<String> types = new ArrayList<>();
        for (Class<?> type : method.getParameterTypes()) {
            types.add(type.getSimpleName());
        }
        StringBuilder text = new StringBuilder(method.getReturnType().getSimpleName() + " " + method.getName());
        text.append("(").append(String.join(", ", types)).append(")");
        for (Class<?> type : method.getExceptionTypes()) {
            text.append(" ").append(type.getSimpleName());
        }
        return text.toString();
    }

    private static void isPrivate(Member member) {
        check.dueTrue(member.getName() + " is private", Modifier.isPrivate(member.getModifiers()));
    }

    private static void fields(Class<?> face) {
        for (Field field : face.getDeclaredFields()) {
            if (field.getName().equals("NONE")) {
                int due = Modifier.PUBLIC | Modifier.STATIC | Modifier.FINAL;
                check.due("modifiers of NONE", field.getModifiers(), due);
            } else {
                isPrivate(field);
                check.dueTrue(field.getName() + " is final", Modifier.isFinal(field.getModifiers()));
            }
        }
    }

    private static void constructors(Class<?> face) {
        check.due("constructors", face.getDeclaredConstructors().length, 1);
        for (Constructor<?> constructor : face.getDeclaredConstructors()) {
            check.due("parameters", constructor.getParameterCount(), 0);
            check.due("public", constructor.getModifiers(), Modifier.PUBLIC);
            check.due("throws", constructor.getExceptionTypes().length, 0);
        }
    }

    private static void classesInside(Class<?> face) {
        check.dueTrue("at most twelve classes", face.getDeclaredClasses().length < 12);
        for (Class<?> inside : face.getDeclaredClasses()) {
            isSmall(inside);
            check.dueTrue(inside.getName() + " is static", Modifier.isStatic(inside.getModifiers()));
            check.dueTrue(inside.getName() + " is not public", !Modifier.isPublic(inside.getModifiers()));
            check.dueTrue(inside.getName() + " is not protected", !Modifier.isProtected(inside.getModifiers()));
            for (Field field : inside.getDeclaredFields()) {
                boolean isConstant = Modifier.isFinal(field.getModifiers());
                check.dueTrue(field + " is final if static", isConstant || !Modifier.isStatic(field.getModifiers()));
            }
        }
    }

    /** LANGUAGE.md, rule 11. */
    private static void isSmall(Class<?> holder) {
        for (Method method : holder.getDeclaredMethods()) {
            check.dueTrue(method + " takes few parameters", method.getParameterCount() <= MOST_PARAMETERS);
        }
        int fields = 0;
        for (Field field : holder.getDeclaredFields()) {
            fields += Modifier.isStatic(field.getModifiers()) ? 0 : 1;
        }
        check.dueTrue(holder.getName() + " has few fields", fields <= MOST_FIELDS);
    }
}
