import java.lang.reflect.Constructor;
import java.lang.reflect.Field;
import java.lang.reflect.Method;
import java.lang.reflect.Modifier;
import java.util.Set;
import java.util.TreeSet;

/** The document's face: its constants, and no member beyond it that others could use. */
public final class FaceTest {
    private static final Due DUE = new Due("FaceTest");
    private static final Set<String> FACE = Set.of(
        "int one(int)", "int think(int,int)", "int stubborn(int,boolean)", "int weight(int,int,int)",
        "int ear(int)", "int rounds(int)", "int settle()", "int about(int,int)", "int told(int)", "int keep()",
        "int back()", "int width(int,int,int)", "int leads(int,int)", "long share(int,int)", "long end(int)",
        "long rest(int,int)", "int pull(int)", "int talk(int,int)", "int fewest(int,int)", "int found()");

    public static void main(String[] args) {
        constants();
        methods();
        fieldsAndConstructors();
        DUE.close();
    }

    private static void constants() {
        DUE.is("UNKNOWN", MindNet.UNKNOWN, -1);
        DUE.is("OUTSIDE", MindNet.OUTSIDE, -2);
        DUE.is("STATE", MindNet.STATE, -3);
        DUE.is("FULL", MindNet.FULL, -4);
        DUE.is("NO", MindNet.NO, -5);
        DUE.is("NONE", MindNet.NONE, -6);
        DUE.is("SPENT", MindNet.SPENT, -7);
        DUE.is("LOST", MindNet.LOST, -1000000000000000000L);
    }

    private static String written(Method method) {
        StringBuilder text = new StringBuilder();
        text.append(method.getReturnType()).append(' ').append(method.getName()).append('(');
        for (Class<?> type : method.getParameterTypes()) {
            text.append(text.charAt(text.length() - 1) == '(' ? "" : ",").append(type);
        }
        return text.append(')').toString();
    }

    private static void methods() {
        Set<String> there = new TreeSet<>();
        Set<String> publicNames = new TreeSet<>();
        for (Method method : MindNet.class.getDeclaredMethods()) {
            if (Modifier.isPublic(method.getModifiers())) {
                there.add(written(method));
                publicNames.add(method.getName());
            }
        }
        DUE.holds("public methods are those of the document: " + there, there.equals(FACE));
        for (Method method : MindNet.class.getDeclaredMethods()) {
            boolean isPrivate = Modifier.isPrivate(method.getModifiers());
            DUE.holds(method + " is public or private", isPrivate || Modifier.isPublic(method.getModifiers()));
            DUE.holds(method + " has a name of its own", !isPrivate || !publicNames.contains(method.getName()));
        }
        for (Class<?> inside : MindNet.class.getDeclaredClasses()) {
            DUE.holds(inside + " is static", Modifier.isStatic(inside.getModifiers()));
            for (Method method : inside.getDeclaredMethods()) {
                DUE.holds(method + " has a name of its own", !publicNames.contains(method.getName()));
            }
        }
    }

    private static void fieldsAndConstructors() {
        DUE.holds("the class is final", Modifier.isFinal(MindNet.class.getModifiers()));
        DUE.is("constructors", MindNet.class.getDeclaredConstructors().length, 1);
        for (Constructor<?> constructor : MindNet.class.getDeclaredConstructors()) {
            DUE.holds("the constructor is public", Modifier.isPublic(constructor.getModifiers()));
        }
        int open = 0;
        for (Field field : MindNet.class.getDeclaredFields()) {
            open += Modifier.isPrivate(field.getModifiers()) ? 0 : 1;
            DUE.holds(field + " is final, if static",
                !Modifier.isStatic(field.getModifiers()) || Modifier.isFinal(field.getModifiers()));
        }
        DUE.is("fields that others can see", open, 8);
    }
}
