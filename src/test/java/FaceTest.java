import java.lang.reflect.Constructor;
import java.lang.reflect.Field;
import java.lang.reflect.Method;
import java.lang.reflect.Modifier;
import java.util.Set;
import java.util.TreeSet;

/** The class has the document's face, and no other member that is not private. */
public final class FaceTest {
    private static final String[] FACE = {
        "int hire(int) IllegalArgumentException IllegalStateException",
        "int speed(int,int) IndexOutOfBoundsException IllegalArgumentException",
        "int lay(int,int) IndexOutOfBoundsException IllegalArgumentException IllegalStateException",
        "int wake(int) IndexOutOfBoundsException",
        "int pass(int) IllegalArgumentException",
        "int set(int,int) IndexOutOfBoundsException IllegalArgumentException",
        "int append(int) IllegalArgumentException IllegalStateException",
        "int clearBuffer()",
        "int firstError()",
        "int obey() IllegalArgumentException",
        "int keep()",
        "int goBack() IllegalStateException",
        "int undo() IllegalStateException",
        "int seamstress(int,int) IndexOutOfBoundsException IllegalArgumentException",
        "int pile(int,int) IndexOutOfBoundsException IllegalArgumentException",
        "int shirt(int,int) IndexOutOfBoundsException IllegalArgumentException",
        "int count(int) IllegalArgumentException",
        "int setting(int) IndexOutOfBoundsException",
        "int choice(int) IndexOutOfBoundsException",
        "int doneIn()",
        "int doneAlone()",
        "int doneWith(int) IllegalArgumentException",
        "int ifPassed(int,int) IllegalArgumentException",
        "double takenShare()",
        "float evenness()",
        "long digest()",
    };

    public static void main(String[] args) {
        Set<String> due = new TreeSet<>(Set.of(FACE));
        Set<String> got = new TreeSet<>();
        for (Method method : SewingPiles.class.getDeclaredMethods()) {
            if (!Modifier.isPrivate(method.getModifiers()) && !method.isSynthetic()) {
                Check.due(method.getName() + " is public and not static", Modifier.PUBLIC, method.getModifiers());
                got.add(written(method));
            }
        }
        if (!due.equals(got)) {
            System.out.println("the face is " + got);
        }
        Check.due("the methods are the document's", 1, due.equals(got) ? 1 : 0);
        checkFieldsAndConstructors();
        Check.due("NONE", -1, SewingPiles.NONE);
        Check.due("the class is public and final", Modifier.PUBLIC | Modifier.FINAL, SewingPiles.class.getModifiers());
        Check.end();
    }

    private static void checkFieldsAndConstructors() {
        for (Field field : SewingPiles.class.getDeclaredFields()) {
            boolean hidden = Modifier.isPrivate(field.getModifiers());
            Check.due("field " + field.getName(), field.getName().equals("NONE") ? 0 : 1, hidden ? 1 : 0);
        }
        Constructor<?>[] constructors = SewingPiles.class.getDeclaredConstructors();
        Check.due("constructors", 1, constructors.length);
        Check.due("the constructor is public", Modifier.PUBLIC, constructors[0].getModifiers());
        Check.due("the constructor's arguments", 0, constructors[0].getParameterCount());
        Check.due("the constructor's exceptions", 0, constructors[0].getExceptionTypes().length);
    }

    private static String written(Method method) {
        StringBuilder line = new StringBuilder(method.getReturnType().getName()).append(' ').append(method.getName());
        String comma = "(";
        for (Class<?> type : method.getParameterTypes()) {
            line.append(comma).append(type.getName());
            comma = ",";
        }
        line.append(method.getParameterCount() == 0 ? "()" : ")");
        for (Class<?> type : method.getExceptionTypes()) {
            line.append(' ').append(type.getSimpleName());
        }
        return line.toString();
    }
}
