import java.lang.reflect.Constructor;
import java.lang.reflect.Field;
import java.lang.reflect.Method;
import java.lang.reflect.Modifier;
import java.util.Set;
import java.util.TreeSet;

/** The class has the document's face, and no member beside it that others could see. */
public final class FaceTest {
    private static final String[] METHODS = {
        "node(boolean,int)", "value(int,boolean,int)", "edge(int,int,int)", "cut(int,int,int)",
        "feed(int,int,int,int,int)", "end(int)", "shapes()", "fault()", "fits(int,int)", "surely(int,int)",
        "all(int)", "wanted(int,int)", "dealt(int,int,int)", "tooMany(int,int)", "which(int,int)",
        "depends(int,int)", "part(int,int,int)", "told(int,int)", "from(int,int,int)", "reset()", "count(int)"
    };

    public static void main(String[] args) throws Exception {
        Check check = new Check();
        check.holds("the class is public and final",
            Modifier.isPublic(ShapeJudge.class.getModifiers()) && Modifier.isFinal(ShapeJudge.class.getModifiers()));
        check.due("BAD", ShapeJudge.BAD, -1);
        check.due("STATE", ShapeJudge.STATE, -2);
        check.due("FULL", ShapeJudge.FULL, -3);
        check.due("NONE", ShapeJudge.NONE, -4);
        lookAtMethods(check);
        lookAtFields(check);
        Constructor<?>[] constructors = ShapeJudge.class.getDeclaredConstructors();
        check.due("constructors", constructors.length, 1);
        check.holds("the constructor is public and without arguments",
            Modifier.isPublic(constructors[0].getModifiers()) && constructors[0].getParameterCount() == 0);
        for (Class<?> inside : ShapeJudge.class.getDeclaredClasses()) {
            check.holds(inside + " is static and not for others", Modifier.isStatic(inside.getModifiers())
                && !Modifier.isPublic(inside.getModifiers()) && !Modifier.isProtected(inside.getModifiers()));
        }
        check.finish("FaceTest");
    }

    private static void lookAtMethods(Check check) {
        Set<String> want = new TreeSet<>(Set.of(METHODS));
        Set<String> got = new TreeSet<>();
        Set<String> publicNames = new TreeSet<>();
        for (String method : METHODS) {
            publicNames.add(method.substring(0, method.indexOf('(')));
        }
        for (Method method : ShapeJudge.class.getDeclaredMethods()) {
            if (Modifier.isPrivate(method.getModifiers())) {
                check.holds(method + " has a name of its own", !publicNames.contains(method.getName()));
                continue;
            }
            if (method.isSynthetic()) {
                continue;
            }
            check.holds(method + " is public, answers an int",
                Modifier.isPublic(method.getModifiers()) && method.getReturnType() == int.class);
            StringBuilder told = new StringBuilder(method.getName()).append('(');
            for (Class<?> type : method.getParameterTypes()) {
                told.append(told.charAt(told.length() - 1) == '(' ? "" : ",").append(type.getName());
            }
            got.add(told.append(')').toString());
        }
        check.holds("the methods are " + want + ", not " + got, want.equals(got));
    }

    private static void lookAtFields(Check check) {
        Set<String> got = new TreeSet<>();
        for (Field field : ShapeJudge.class.getDeclaredFields()) {
            if (!Modifier.isPrivate(field.getModifiers())) {
                check.holds(field + " is a public constant", Modifier.isPublic(field.getModifiers())
                    && Modifier.isStatic(field.getModifiers()) && Modifier.isFinal(field.getModifiers()));
                got.add(field.getName());
            }
        }
        check.holds("the constants are not " + got, got.equals(Set.of("BAD", "STATE", "FULL", "NONE")));
    }
}
