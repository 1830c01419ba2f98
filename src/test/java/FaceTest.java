import java.lang.reflect.Constructor;
import java.lang.reflect.Field;
import java.lang.reflect.Method;
import java.lang.reflect.Modifier;
import java.util.ArrayList;
import java.util.HashSet;
import java.util.List;
import java.util.Set;

/** The public face is that of the document, and nothing beside it can be seen (LANGUAGE.md, 1 and 5). */
public final class FaceTest {
    private static final String[] FACE = {
        "int row(int,int,int)", "int set(int,int,int)", "int copy(int,int,int,int,int)", "int drop(int)",
        "int feed(int)", "int county()", "int fault()", "int undo()", "int stroke(int,int)", "int brook(int)",
        "int oblige(int)", "int years(int)", "int cell(int,int)", "int surveyor(int,int)", "int bits(int)",
        "int strokes(int,int)", "int unfelt()", "int each(int,int)", "int fit(int,int,int)", "int scratch(int,int)",
        "int men(int)", "int sign(int)", "int settled(int)", "long drawnSo(int,int,int,int)",
        "int quarrel(int,int,int)", "int drawn(int,int,int)", "int image(int)", "int restore(int)", "int kind(int)",
        "int as(int,int)", "int ask(int,int)", "int trace(int)", "int count(int)", "int status()"
    };

    public static void main(String[] args) {
        List<String> faults = new ArrayList<>();
        Set<String> names = methods(faults);
        Check.due("NONE", MapItch.NONE, -1000000);
        Check.due("BAD", MapItch.BAD, -1000001);
        Check.due("STATE", MapItch.STATE, -1000002);
        Check.due("FULL", MapItch.FULL, -1000003);
        Check.due("public and final", MapItch.class.getModifiers(), Modifier.PUBLIC | Modifier.FINAL);
        Constructor<?>[] makers = MapItch.class.getDeclaredConstructors();
        Check.due("constructors", makers.length, 1);
        Check.due("a public constructor", makers[0].getModifiers(), Modifier.PUBLIC);
        Check.due("arguments of it", makers[0].getParameterCount(), 0);
        fields(MapItch.class, true, faults);
        for (Class<?> inside : MapItch.class.getDeclaredClasses()) {
            within(inside, names, faults);
        }
        for (String fault : faults) {
            System.out.println(fault);
        }
        Check.due("faults of the face", faults.size(), 0);
        if (Document.isThere()) {
            Check.due("the document's face", List.of(FACE).equals(Document.face()) ? 1 : 0, 1);
        }
        Check.end();
    }

    private static Set<String> methods(List<String> faults) {
        Set<String> wanted = new HashSet<>(List.of(FACE));
        Set<String> names = new HashSet<>();
        for (String one : FACE) {
            names.add(one.substring(one.indexOf(' ') + 1, one.indexOf('(')));
        }
        for (Method method : MapItch.class.getDeclaredMethods()) {
            if (Modifier.isPublic(method.getModifiers())) {
                if (!wanted.remove(signature(method)) || method.getModifiers() != Modifier.PUBLIC) {
                    faults.add("not of the face: " + method);
                }
            } else if (!Modifier.isPrivate(method.getModifiers()) || names.contains(method.getName())) {
                faults.add("seen, or named as a public one: " + method);
            }
        }
        for (String one : wanted) {
            faults.add("missing: " + one);
        }
        return names;
    }

    private static String signature(Method method) {
        StringBuilder text = new StringBuilder();
        text.append(method.getReturnType().getName()).append(' ').append(method.getName()).append('(');
        for (Class<?> type : method.getParameterTypes()) {
            text.append(text.charAt(text.length() - 1) == '(' ? "" : ",").append(type.getName());
        }
        return text.append(')').toString();
    }

    private static void within(Class<?> inside, Set<String> names, List<String> faults) {
        if (!Modifier.isStatic(inside.getModifiers()) || Modifier.isPublic(inside.getModifiers())) {
            faults.add("not static, or public: " + inside);
        }
        for (Method method : inside.getDeclaredMethods()) {
            if (names.contains(method.getName())) {
                faults.add("named as a public one: " + method);
            }
        }
        fields(inside, false, faults);
    }

    private static void fields(Class<?> holder, boolean isFace, List<String> faults) {
        Set<String> constants = Set.of("NONE", "BAD", "STATE", "FULL");
        int own = 0;
        for (Field field : holder.getDeclaredFields()) {
            int flags = field.getModifiers();
            boolean isConstant = isFace && constants.contains(field.getName());
            if (Modifier.isStatic(flags) && !Modifier.isFinal(flags)) {
                faults.add("static and not final: " + field);
            }
            if (isFace && Modifier.isPublic(flags) != isConstant || isFace && !isConstant && !Modifier.isPrivate(flags)) {
                faults.add("seen from outside, or not: " + field);
            }
            own += Modifier.isStatic(flags) ? 0 : 1;
        }
        if (own > 20) {
            faults.add("too many fields: " + holder);
        }
    }
}
