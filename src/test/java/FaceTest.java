import java.lang.reflect.Constructor;
import java.lang.reflect.Field;
import java.lang.reflect.Method;
import java.lang.reflect.Modifier;
import java.util.ArrayList;
import java.util.Arrays;
import java.util.List;
import java.util.Set;
import java.util.TreeSet;

/**
 * The public face: the document's constants, constructor and methods, and nothing else; and what
 * LANGUAGE.md asks of the members behind it.
 */
public final class FaceTest {
    private static final String[] METHODS = {
        "tensor(int,int,int)", "set(int,int,int)", "scale(int,int,int)",
        "operator(int,int,int,int,int)", "keep(int,boolean)", "prepare()", "reopen()", "start()",
        "step()", "finish()", "cell(int,int)", "offset(int)", "life(int,boolean)", "placed(int)",
        "scaled(int,int)", "count(int)",
    };
    private static final String[] CONSTANTS = {"DONE", "REFUSED", "FULL", "CLOSED", "NONE"};

    private static final Due due = new Due();

    public static void main(String[] args) {
        due.part("face");
        constantValues();
        classAndConstructor();
        visibleMethods();
        visibleFields();
        hiddenNames();
        classesInside();
        staticFields();
        due.end();
    }

    private static void constantValues() {
        due.is("DONE", ArenaNetwork.DONE, 0);
        due.is("REFUSED", ArenaNetwork.REFUSED, -1);
        due.is("FULL", ArenaNetwork.FULL, -2);
        due.is("CLOSED", ArenaNetwork.CLOSED, -3);
        due.is("NONE", ArenaNetwork.NONE, -1000);
    }

    private static void classAndConstructor() {
        int modifiers = ArenaNetwork.class.getModifiers();
        due.is("public final", modifiers & (Modifier.PUBLIC | Modifier.FINAL), Modifier.PUBLIC | Modifier.FINAL);
        Constructor<?>[] constructors = ArenaNetwork.class.getDeclaredConstructors();
        due.is("constructors", constructors.length, 1);
        due.is("constructor is public", constructors[0].getModifiers(), Modifier.PUBLIC);
        due.is("constructor's parameters", constructors[0].getParameterCount(), 0);
    }

    private static void visibleMethods() {
        Set<String> visible = new TreeSet<>();
        for (Method m : ArenaNetwork.class.getDeclaredMethods()) {
            if (!Modifier.isPrivate(m.getModifiers())) {
                visible.add(signature(m));
                due.is(m.getName() + " is public only", m.getModifiers(), Modifier.PUBLIC);
                due.is(m.getName() + " answers int", m.getReturnType() == int.class ? 1 : 0, 1);
            }
        }
        sameNames("methods", visible, METHODS);
    }

    private static void visibleFields() {
        Set<String> visible = new TreeSet<>();
        for (Field f : ArenaNetwork.class.getDeclaredFields()) {
            if (!Modifier.isPrivate(f.getModifiers())) {
                visible.add(f.getName());
            }
        }
        sameNames("fields", visible, CONSTANTS);
    }

    private static void hiddenNames() {
        Set<String> shown = new TreeSet<>();
        for (String method : METHODS) {
            shown.add(method.substring(0, method.indexOf('(')));
        }
        for (Class<?> owner : ownClasses()) {
            for (Method m : owner.getDeclaredMethods()) {
                boolean clashes = Modifier.isPrivate(m.getModifiers()) && shown.contains(m.getName());
                due.is("private " + m.getName() + " bears a public name", clashes ? 1 : 0, 0);
            }
        }
    }

    private static void classesInside() {
        for (Class<?> inside : ArenaNetwork.class.getDeclaredClasses()) {
            int modifiers = inside.getModifiers();
            due.is(inside.getName() + " is static", modifiers & Modifier.STATIC, Modifier.STATIC);
            due.is(inside.getName() + " is hidden", modifiers & (Modifier.PUBLIC | Modifier.PROTECTED), 0);
        }
    }

    private static void staticFields() {
        for (Class<?> owner : ownClasses()) {
            for (Field f : owner.getDeclaredFields()) {
                boolean changes = Modifier.isStatic(f.getModifiers()) && !Modifier.isFinal(f.getModifiers());
                due.is(f.getName() + " is static and not final", changes ? 1 : 0, 0);
            }
        }
    }

    private static List<Class<?>> ownClasses() {
        List<Class<?>> classes = new ArrayList<>(Arrays.asList(ArenaNetwork.class.getDeclaredClasses()));
        classes.add(ArenaNetwork.class);
        return classes;
    }

    private static String signature(Method m) {
        StringBuilder text = new StringBuilder(m.getName()).append('(');
        String comma = "";
        for (Class<?> type : m.getParameterTypes()) {
            text.append(comma).append(type.getName());
            comma = ",";
        }
        return text.append(')').toString();
    }

    private static void sameNames(String what, Set<String> got, String[] want) {
        Set<String> wanted = new TreeSet<>(Arrays.asList(want));
        due.is(what + " " + got + " against " + wanted, got.equals(wanted) ? 1 : 0, 1);
    }
}
