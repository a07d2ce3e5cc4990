import java.lang.reflect.Field;
import java.lang.reflect.Method;
import java.lang.reflect.Modifier;
import java.util.Arrays;
import java.util.TreeSet;

/** The public face is the document's, with nothing beside it (rule 1 of LANGUAGE.md). */
public final class FaceTest {
    private static final String[] FACE = {
        "boolean holds(int, int, int, int)",
        "boolean put(int, int, int, int)",
        "boolean remove(int, int, int, int)",
        "boolean type(long, int)",
        "int abort()",
        "int changed(int, int)",
        "int checkpoint()",
        "int commit() IllegalStateException",
        "int compile() IllegalArgumentException",
        "int crash()",
        "int derivations(int, int, int, int)",
        "int fact(int, int)",
        "int fault(int)",
        "int log(int)",
        "int predicate(int, int)",
        "int sync()",
    };

    public static void main(String[] args) {
        Cases cases = new Cases("The public face");
        cases.check("the methods of the document, with what they throw, and no other", FaceTest::methods);
        cases.check("no private method bears the name of a public one", FaceTest::names);
        cases.check("the constant NONE, and no other field that is not private", FaceTest::fields);
        cases.check("a public and final class with the one constructor", FaceTest::shape);
        cases.finish();
    }

    private static void methods(Expect expect) {
        TreeSet<String> seen = new TreeSet<>();
        for (Method m : RuleHall.class.getDeclaredMethods()) {
            if (!Modifier.isPrivate(m.getModifiers())) {
                expect.yes(m + " is public and of the object", m.getModifiers() == Modifier.PUBLIC);
                seen.add(describe(m));
            }
        }
        expect.yes("the methods " + seen, seen.equals(new TreeSet<>(Arrays.asList(FACE))));
    }

    private static void names(Expect expect) {
        TreeSet<String> publicNames = new TreeSet<>();
        for (Method m : RuleHall.class.getMethods()) {
            publicNames.add(m.getName());
        }
        for (Method m : RuleHall.class.getDeclaredMethods()) {
            expect.no(m + " bears a public name", Modifier.isPrivate(m.getModifiers()) && publicNames.contains(m.getName()));
        }
    }

    private static void fields(Expect expect) {
        for (Field f : RuleHall.class.getDeclaredFields()) {
            boolean isNone = f.getName().equals("NONE");
            expect.yes(f + " is private or NONE", isNone || Modifier.isPrivate(f.getModifiers()));
            if (isNone) {
                expect.same("modifiers of NONE", f.getModifiers(), Modifier.PUBLIC | Modifier.STATIC | Modifier.FINAL);
            }
        }
        expect.same("NONE", RuleHall.NONE, -1);
    }

    private static void shape(Expect expect) {
        expect.same("modifiers of the class", RuleHall.class.getModifiers(), Modifier.PUBLIC | Modifier.FINAL);
        expect.same("constructors", RuleHall.class.getDeclaredConstructors().length, 1);
        expect.same("public constructors", RuleHall.class.getConstructors().length, 1);
    }

    private static String describe(Method m) {
        StringBuilder text = new StringBuilder(m.getReturnType() + " " + m.getName() + "(");
        for (int i = 0; i < m.getParameterCount(); i++) {
            text.append(i == 0 ? "" : ", ").append(m.getParameterTypes()[i]);
        }
        text.append(")");
        for (Class<?> thrown : m.getExceptionTypes()) {
            text.append(" ").append(thrown.getSimpleName());
        }
        return text.toString();
    }
}
