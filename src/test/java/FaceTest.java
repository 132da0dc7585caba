import java.lang.reflect.Constructor;
import java.lang.reflect.Field;
import java.lang.reflect.Method;
import java.lang.reflect.Modifier;
import java.util.Set;
import java.util.TreeSet;

/** The public face is the document's, and nothing else can be seen from outside. */
public final class FaceTest {
    private static final String[] METHODS = {
        "int put(int,int)", "int erase(int)", "int begin(int,int)", "int tick(int)", "int lock()", "int unlock()",
        "int swap()", "int giveUp()", "int set(int,int)", "int append(int)", "int clearText()", "int fault()",
        "int run()", "int undo()", "int save()", "int restore()", "int value(int,int)", "int table(int,int)",
        "int copy(int)", "int entry(int,int)", "int changed(int,int,int)", "int differences()",
        "int firstDifference()", "int setting(int)", "int total(int)", "int states()", "int readyIn()",
        "int leastLot(int)", "double progress()",
    };
    private static final String[] CONSTANTS = {
        "NO_SUCH=-1", "BAD_VALUE=-2", "TOO_MANY=-3", "NOT_POSSIBLE=-4", "NONE=-5", "STEPS=0", "LAG=1",
        "PATIENCE=2", "STRICT=3", "LIVE=0", "SHADOW=1", "OLD=2",
    };

    public static void main(String[] args) throws IllegalAccessException {
        Checks checks = new Checks("FaceTest");
        checks.due("the class's modifiers", ShadowTable.class.getModifiers(), Modifier.PUBLIC | Modifier.FINAL);
        checks.dueText("the methods", methods().toString(), new TreeSet<>(Set.of(METHODS)).toString());
        checks.dueText("the constants", constants().toString(), new TreeSet<>(Set.of(CONSTANTS)).toString());
        Constructor<?>[] constructors = ShadowTable.class.getDeclaredConstructors();
        checks.due("the constructors", constructors.length, 1);
        checks.due("the constructor's modifiers", constructors[0].getModifiers(), Modifier.PUBLIC);
        checks.due("the constructor's parameters", constructors[0].getParameterCount(), 0);
        for (Class<?> inside : ShadowTable.class.getDeclaredClasses()) {
            int modifiers = inside.getModifiers();
            boolean isHidden = !Modifier.isPublic(modifiers) && !Modifier.isProtected(modifiers);
            checks.due(inside + " is hidden and static", isHidden && Modifier.isStatic(modifiers) ? 1 : 0, 1);
        }
        checks.end();
    }

    private static TreeSet<String> methods() {
        TreeSet<String> found = new TreeSet<>();
        Set<String> publicNames = new TreeSet<>();
        for (Method method : ShadowTable.class.getDeclaredMethods()) {
            if (method.getModifiers() == Modifier.PUBLIC) {
                found.add(shapeOf(method));
                publicNames.add(method.getName());
            } else if (!Modifier.isPrivate(method.getModifiers())) {
                found.add("visible: " + shapeOf(method));
            }
        }
        for (Method method : ShadowTable.class.getDeclaredMethods()) {
            if (Modifier.isPrivate(method.getModifiers()) && publicNames.contains(method.getName())) {
                found.add("private with a public name: " + shapeOf(method));
            }
        }
        return found;
    }

    private static String shapeOf(Method method) {
        StringBuilder parameters = new StringBuilder();
        for (Class<?> type : method.getParameterTypes()) {
            parameters.append(parameters.length() == 0 ? "" : ",").append(type);
        }
        return method.getReturnType() + " " + method.getName() + "(" + parameters + ")";
    }

    private static TreeSet<String> constants() throws IllegalAccessException {
        TreeSet<String> found = new TreeSet<>();
        for (Field field : ShadowTable.class.getDeclaredFields()) {
            int modifiers = field.getModifiers();
            if (modifiers == (Modifier.PUBLIC | Modifier.STATIC | Modifier.FINAL) && field.getType() == int.class) {
                found.add(field.getName() + "=" + field.getInt(null));
            } else if (!Modifier.isPrivate(modifiers)) {
                found.add("visible: " + field);
            }
        }
        return found;
    }
}
