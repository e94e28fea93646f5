import java.lang.reflect.Constructor;
import java.lang.reflect.Field;
import java.lang.reflect.Method;
import java.lang.reflect.Modifier;
import java.util.TreeSet;

/** The class has the document's face, and nothing else that is to be seen from outside. */
public final class FaceTest {
    private static final String[] FACE = {
        "int newMap(int,int) IllegalArgumentException",
        "int paint(int,int,int) IndexOutOfBoundsException",
        "boolean turnStubborn(int,int) IndexOutOfBoundsException",
        "int setNeed(int) IllegalArgumentException",
        "int pass(int) IllegalArgumentException",
        "int colourAt(int,int) IndexOutOfBoundsException",
        "boolean isStubborn(int,int) IndexOutOfBoundsException",
        "int neighboursWith(int,int,int) IndexOutOfBoundsException",
        "int nextColour(int,int) IndexOutOfBoundsException",
        "int regionSize(int,int) IndexOutOfBoundsException",
        "int width()",
        "int height()",
        "int need()",
        "int waves()",
        "int stubbornCells()",
        "int cellsOf(int) IndexOutOfBoundsException",
        "int regionsOf(int) IndexOutOfBoundsException",
        "int greatestRegion(int) IndexOutOfBoundsException",
        "int borders()",
        "int leader()",
        "boolean isStill()",
        "int winner()",
        "int wavesUntilStill()",
        "int cellsAfter(int,int) IllegalArgumentException IndexOutOfBoundsException",
        "boolean wins(int) IndexOutOfBoundsException",
        "int fewestSeeds(int) IndexOutOfBoundsException",
        "int bestCell(int,int) IndexOutOfBoundsException IllegalArgumentException",
        "double share(int) IndexOutOfBoundsException",
        "long digest()",
    };

    public static void main(String[] args) {
        Check check = new Check();
        TreeSet<String> due = new TreeSet<>();
        for (String line : FACE) {
            due.add(line);
        }
        TreeSet<String> found = new TreeSet<>();
        for (Method method : ColourTide.class.getDeclaredMethods()) {
            if (!Modifier.isPrivate(method.getModifiers())) {
                check.same("is public: " + method, Modifier.isPublic(method.getModifiers()), true);
                found.add(line(method));
            }
        }
        check.same("the methods", found.toString(), due.toString());
        Constructor<?>[] constructors = ColourTide.class.getDeclaredConstructors();
        check.same("constructors", constructors.length, 1);
        check.same("the constructor is public", Modifier.isPublic(constructors[0].getModifiers()), true);
        check.same("the constructor's parameters", constructors[0].getParameterCount(), 0);
        check.same("the class is final", Modifier.isFinal(ColourTide.class.getModifiers()), true);
        for (Field field : ColourTide.class.getDeclaredFields()) {
            check.same("is private: " + field, Modifier.isPrivate(field.getModifiers()), true);
        }
        check.end();
    }

    private static String line(Method method) {
        StringBuilder text = new StringBuilder();
        text.append(method.getReturnType()).append(' ').append(method.getName()).append('(');
        String comma = "";
        for (Class<?> parameter : method.getParameterTypes()) {
            text.append(comma).append(parameter);
            comma = ",";
        }
        text.append(')');
        for (Class<?> exception : method.getExceptionTypes()) {
            text.append(' ').append(exception.getSimpleName());
        }
        return text.toString();
    }
}
