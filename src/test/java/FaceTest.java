import java.lang.reflect.Constructor;
import java.lang.reflect.Field;
import java.lang.reflect.Method;
import java.lang.reflect.Modifier;
import java.util.Arrays;
import java.util.TreeSet;

/** The public face: what the document shows, and nothing else that is not private. */
public final class FaceTest {
    private static final String[] FACE = {
        "int type(char)",
        "int form() IllegalArgumentException IllegalStateException",
        "int operand(int,int,int,int,int) IllegalArgumentException",
        "int test()",
        "int poke(int,int) IndexOutOfBoundsException",
        "int peek(int) IndexOutOfBoundsException",
        "int decode(int) IllegalStateException IndexOutOfBoundsException",
        "int value(int,int) IllegalStateException IndexOutOfBoundsException",
        "int write(int) IllegalStateException IndexOutOfBoundsException",
        "char written(int)",
        "int line() IllegalArgumentException IllegalStateException",
        "int erase()",
        "int assemble(int) IllegalStateException NoSuchElementException IndexOutOfBoundsException"
            + " IllegalArgumentException",
        "int fault()",
        "int count(int)"};

    public static void main(String[] args) {
        TreeSet<String> found = new TreeSet<>();
        for (Method method : OpcodeAtlas.class.getDeclaredMethods()) {
            if (!Modifier.isPrivate(method.getModifiers())) {
                Check.due(method + " is public and no more", method.getModifiers(), Modifier.PUBLIC);
                found.add(told(method));
            }
        }
        Check.due("the methods", found.toString(), new TreeSet<>(Arrays.asList(FACE)).toString());
        for (Field field : OpcodeAtlas.class.getDeclaredFields()) {
            int modifiers = field.getModifiers();
            Check.due(field + " is private", Modifier.isPrivate(modifiers) ? 1 : 0, 1);
            Check.due(field + " is final if static", Modifier.isStatic(modifiers) && !Modifier.isFinal(modifiers) ? 1 : 0, 0);
        }
        Constructor<?>[] constructors = OpcodeAtlas.class.getDeclaredConstructors();
        Check.due("constructors", constructors.length, 1);
        Check.due("the constructor's parameters", constructors[0].getParameterCount(), 0);
        Check.due("the constructor is public", constructors[0].getModifiers(), Modifier.PUBLIC);
        Check.due("the class", OpcodeAtlas.class.getModifiers(), Modifier.PUBLIC | Modifier.FINAL);
        for (Class<?> inside : OpcodeAtlas.class.getDeclaredClasses()) {
            int open = inside.getModifiers() & (Modifier.PUBLIC | Modifier.PROTECTED);
            Check.due(inside + " is private or package-visible", open, 0);
            Check.due(inside + " is static", inside.getModifiers() & Modifier.STATIC, Modifier.STATIC);
        }
        Check.finish();
    }

    private static String told(Method method) {
        StringBuilder text = new StringBuilder(method.getReturnType() + " " + method.getName() + "(");
        for (Class<?> parameter : method.getParameterTypes()) {
            text.append(text.charAt(text.length() - 1) == '(' ? "" : ",").append(parameter);
        }
        text.append(")");
        for (Class<?> thrown : method.getExceptionTypes()) {
            text.append(" ").append(thrown.getSimpleName());
        }
        return text.toString();
    }
}
