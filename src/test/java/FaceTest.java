import java.lang.reflect.Constructor;
import java.lang.reflect.Field;
import java.lang.reflect.Member;
import java.lang.reflect.Method;
import java.lang.reflect.Modifier;
import java.util.ArrayList;
import java.util.Collections;
import java.util.List;

/** The public face is exactly the one that the document prints, and nothing else can be seen from outside. */
public final class FaceTest {

    private static final String[] METHODS = {
        "int append(int) throws IllegalArgumentException IllegalStateException",
        "int buy(int, int, int) throws IllegalArgumentException IllegalStateException",
        "int buyAll() throws IllegalArgumentException",
        "int clearBuffer()",
        "int count(int) throws IllegalArgumentException",
        "long digest()",
        "int firstError()",
        "int helps(int) throws IndexOutOfBoundsException",
        "int hose(int, int) throws IndexOutOfBoundsException IllegalArgumentException",
        "int ifTested(int, int) throws IndexOutOfBoundsException IllegalArgumentException",
        "int lend(int, int) throws IndexOutOfBoundsException IllegalArgumentException IllegalStateException",
        "int nextLapse()",
        "int pass(int) throws IllegalArgumentException",
        "int put(int, int) throws IndexOutOfBoundsException IllegalArgumentException IllegalStateException",
        "double readyShare()",
        "int renew(int) throws IndexOutOfBoundsException IllegalStateException",
        "int safe(int) throws IndexOutOfBoundsException",
        "int set(int, int) throws IndexOutOfBoundsException IllegalArgumentException",
        "int setting(int) throws IndexOutOfBoundsException",
        "int test(int, int) throws IndexOutOfBoundsException IllegalArgumentException IllegalStateException",
        "int truck(int, int) throws IndexOutOfBoundsException IllegalArgumentException",
        "int undo() throws IllegalStateException",
        "int want(int, int) throws IndexOutOfBoundsException IllegalArgumentException",
    };

    public static void main(String[] args) {
        theClassIsPublicAndFinal();
        theConstructorStandsAlone();
        theMethodsAreThoseOfTheDocument();
        nothingElseIsSeen();
        noPrivateMethodBearsAPublicName();
        Check.end("FaceTest");
    }

    private static void theClassIsPublicAndFinal() {
        int marks = HoseTests.class.getModifiers();
        Check.isTrue("the class is public and final", Modifier.isPublic(marks) && Modifier.isFinal(marks));
        Check.isTrue("the class extends Object", HoseTests.class.getSuperclass() == Object.class);
        Check.same("interfaces of the class", HoseTests.class.getInterfaces().length, 0);
        Check.same("NONE", HoseTests.NONE, -1);
    }

    private static void theConstructorStandsAlone() {
        Constructor<?>[] all = HoseTests.class.getDeclaredConstructors();
        Check.same("constructors", all.length, 1);
        Check.isTrue("the constructor is public", Modifier.isPublic(all[0].getModifiers()));
        Check.same("parameters of the constructor", all[0].getParameterCount(), 0);
        Check.same("exceptions of the constructor", all[0].getExceptionTypes().length, 0);
    }

    private static void theMethodsAreThoseOfTheDocument() {
        List<String> found = new ArrayList<>();
        for (Method m : HoseTests.class.getDeclaredMethods()) {
            if (Modifier.isPublic(m.getModifiers())) {
                Check.isTrue(m.getName() + " is no static method", !Modifier.isStatic(m.getModifiers()));
                found.add(written(m));
            }
        }
        Collections.sort(found);
        List<String> due = new ArrayList<>(List.of(METHODS));
        Collections.sort(due);
        Check.isTrue("the public methods " + found + " are " + due, found.equals(due));
    }

    private static String written(Method m) {
        StringBuilder text = new StringBuilder();
        text.append(m.getReturnType().getSimpleName()).append(' ').append(m.getName()).append('(');
        for (int i = 0; i < m.getParameterCount(); i++) {
            text.append(i == 0 ? "" : ", ").append(m.getParameterTypes()[i].getSimpleName());
        }
        text.append(')');
        Class<?>[] thrown = m.getExceptionTypes();
        text.append(thrown.length == 0 ? "" : " throws");
        for (Class<?> e : thrown) {
            text.append(' ').append(e.getSimpleName());
        }
        return text.toString();
    }

    private static void nothingElseIsSeen() {
        for (Method m : HoseTests.class.getDeclaredMethods()) {
            Check.isTrue(m.getName() + " is public or private", publicOrPrivate(m));
        }
        for (Field f : HoseTests.class.getDeclaredFields()) {
            boolean isNone = f.getName().equals("NONE");
            Check.isTrue(f.getName() + " is private, but for NONE",
                    isNone ? Modifier.isPublic(f.getModifiers()) : Modifier.isPrivate(f.getModifiers()));
            Check.isTrue(f.getName() + " is final if it is static",
                    !Modifier.isStatic(f.getModifiers()) || Modifier.isFinal(f.getModifiers()));
        }
        for (Class<?> c : HoseTests.class.getDeclaredClasses()) {
            Check.isTrue(c.getName() + " is static and not public",
                    Modifier.isStatic(c.getModifiers()) && !Modifier.isPublic(c.getModifiers()));
        }
    }

    private static boolean publicOrPrivate(Member m) {
        return Modifier.isPublic(m.getModifiers()) || Modifier.isPrivate(m.getModifiers());
    }

    private static void noPrivateMethodBearsAPublicName() {
        List<Method> inside = new ArrayList<>(List.of(HoseTests.class.getDeclaredMethods()));
        for (Class<?> c : HoseTests.class.getDeclaredClasses()) {
            inside.addAll(List.of(c.getDeclaredMethods()));
        }
        for (Method m : inside) {
            for (String face : METHODS) {
                boolean sameName = face.contains(" " + m.getName() + "(");
                Check.isTrue(m + " bears no public name", Modifier.isPublic(m.getModifiers()) || !sameName);
            }
        }
    }
}
