import java.lang.reflect.Constructor;
import java.lang.reflect.Executable;
import java.lang.reflect.Field;
import java.lang.reflect.Method;
import java.lang.reflect.Modifier;
import java.util.Set;
import java.util.TreeSet;

/** The class has the document's face, and nothing beside it that another class could see. */
final class FaceTest {
    private static final String I = "IndexOutOfBoundsException";
    private static final String A = "IllegalArgumentException";
    private static final String S = "IllegalStateException";
    private static final String[] FACE = {
        "int open(int,int,int,int) " + A + " " + S,
        "int term(int,int,int) " + I + " " + A + " " + S,
        "int rent(int,int) " + I + " " + A + " " + S,
        "int endPart(int,int,int) " + I + " " + A + " " + S,
        "int impair(int,int) " + I + " " + A + " " + S,
        "int sublet(int,int,int,int) " + I + " " + A + " " + S,
        "int pass(int) " + A + " " + S,
        "int append(int) " + A + " " + S,
        "int clearBuffer()",
        "int firstError()",
        "int openAll() " + A + " " + S,
        "int undo() " + S,
        "int lease(int,int) " + I + " " + A,
        "int sublease(int,int) " + I + " " + A,
        "int movement(int,int) " + I + " " + A,
        "int profit(int,int) " + I + " " + A,
        "int count(int) " + A,
        "int worth(int,int,int) " + A,
        "int plan(int,int,int) " + I + " " + A,
        "int ifMeasured(int,int,int,int,int) " + I + " " + A,
        "int paymentFor(int,int) " + I + " " + A,
        "int rateWithin(int) " + I,
        "int fairReceipt(int,int,int) " + I + " " + A,
        "double offShare()",
        "long digest()",
    };

    private FaceTest() {
    }

    public static void main(String[] args) {
        Check check = new Check();
        Set<String> methods = new TreeSet<>();
        Set<String> names = new TreeSet<>();
        for (Method method : LeaseBook.class.getDeclaredMethods()) {
            if (!Modifier.isPrivate(method.getModifiers())) {
                check.due("modifiers of " + method.getName(), method.getModifiers(), Modifier.PUBLIC);
                methods.add(method.getReturnType().getSimpleName() + " " + method.getName() + described(method));
                names.add(method.getName());
            }
        }
        check.same("the methods", methods.toString(), new TreeSet<>(Set.of(FACE)).toString());
        for (Method method : LeaseBook.class.getDeclaredMethods()) {
            if (Modifier.isPrivate(method.getModifiers())) {
                check.holds("a name of its own: " + method.getName(), !names.contains(method.getName()));
            }
        }
        for (Field field : LeaseBook.class.getDeclaredFields()) {
            boolean constant = field.getName().equals("NONE");
            check.holds("what others see of " + field.getName(),
                    constant ? field.getModifiers() == (Modifier.PUBLIC | Modifier.STATIC | Modifier.FINAL)
                            : Modifier.isPrivate(field.getModifiers()));
        }
        Constructor<?>[] constructors = LeaseBook.class.getDeclaredConstructors();
        check.due("constructors", constructors.length, 1);
        check.same("the constructor", described(constructors[0]), "()");
        check.due("its modifiers", constructors[0].getModifiers(), Modifier.PUBLIC);
        check.due("the class's modifiers", LeaseBook.class.getModifiers(), Modifier.PUBLIC | Modifier.FINAL);
        check.end("FaceTest");
    }

    private static String described(Executable executable) {
        StringBuilder text = new StringBuilder("(");
        for (Class<?> type : executable.getParameterTypes()) {
            text.append(text.length() > 1 ? "," : "").append(type.getSimpleName());
        }
        text.append(")");
        for (Class<?> type : executable.getExceptionTypes()) {
            text.append(" ").append(type.getSimpleName());
        }
        return text.toString();
    }
}
