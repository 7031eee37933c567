import java.lang.reflect.Constructor;
import java.lang.reflect.Field;
import java.lang.reflect.Method;
import java.lang.reflect.Modifier;
import java.util.Set;
import java.util.TreeSet;

/** The class shows the document's face, and nothing but that. */
public final class FaceTest {
    private static final String[] FACE = {
        "int feed(int,int,int,int,int) IllegalStateException",
        "int trim(int) IllegalArgumentException",
        "int add(int,int,int) IllegalArgumentException,IllegalStateException",
        "boolean takeOut(int) IllegalArgumentException,IllegalStateException",
        "int commit() ",
        "int mergeAll() ",
        "int texts() ",
        "int buffered() ",
        "int segments() ",
        "int merges() ",
        "int textsIn(int) IndexOutOfBoundsException",
        "int markedIn(int) IndexOutOfBoundsException",
        "int levelOf(int) IndexOutOfBoundsException",
        "int wordsIn(int,int) IndexOutOfBoundsException",
        "int keyAt(int,int) IndexOutOfBoundsException",
        "boolean isMarked(int,int) IndexOutOfBoundsException",
        "int lengthOf(int,int,int) IndexOutOfBoundsException",
        "int segmentOf(int) IllegalArgumentException",
        "int shelfOf(int) IllegalArgumentException",
        "int takeWord() ",
        "int wordByte(int) IndexOutOfBoundsException",
        "int textsWith(int) IndexOutOfBoundsException",
        "int timesIn(int,int) IllegalArgumentException,IndexOutOfBoundsException",
        "int rarity(int) IndexOutOfBoundsException",
        "int nearest() ",
        "int ask() ",
        "int parts() IllegalStateException",
        "int found() IllegalStateException",
        "int keyFound(int) IllegalStateException,IndexOutOfBoundsException",
        "int weightFound(int) IllegalStateException,IndexOutOfBoundsException",
        "int foundOn(int) IllegalStateException,IndexOutOfBoundsException",
        "int placeOf(int) IllegalStateException,IllegalArgumentException",
        "int partWeight(int,int) IllegalStateException,IllegalArgumentException,IndexOutOfBoundsException",
        "int foundWithout(int) IllegalStateException,IndexOutOfBoundsException",
        "int firstFit(int,int) IllegalStateException,IllegalArgumentException,IndexOutOfBoundsException",
        "double meanWeight() IllegalStateException",
        "long digest() ",
    };

    public static void main(String[] args) {
        Tester tester = new Tester();
        Class<?> face = BeaconIndex.class;
        tester.due("public and final", face.getModifiers(), Modifier.PUBLIC | Modifier.FINAL);
        tester.due("what it extends", face.getSuperclass(), Object.class);
        tester.due("what it implements", face.getInterfaces().length, 0);
        checkMethods(tester, face);
        for (Field field : face.getDeclaredFields()) {
            tester.due(field.getName() + " is private", Modifier.isPrivate(field.getModifiers()), true);
            checkStatic(tester, field);
        }
        for (Constructor<?> constructor : face.getDeclaredConstructors()) {
            tester.due("parameters of the constructor", constructor.getParameterCount(), 0);
            tester.due("constructor", constructor.getModifiers(), Modifier.PUBLIC);
        }
        for (Class<?> inner : face.getDeclaredClasses()) {
            tester.due(inner.getName() + " is static", Modifier.isStatic(inner.getModifiers()), true);
            tester.due(inner.getName() + " is public", Modifier.isPublic(inner.getModifiers()), false);
            for (Field field : inner.getDeclaredFields()) {
                checkStatic(tester, field);
            }
        }
        tester.end();
    }

    private static void checkStatic(Tester tester, Field field) {
        if (Modifier.isStatic(field.getModifiers())) {
            tester.due(field.getName() + " is final", Modifier.isFinal(field.getModifiers()), true);
        }
    }

    private static void checkMethods(Tester tester, Class<?> face) {
        Set<String> due = new TreeSet<>(Set.of(FACE));
        Set<String> names = new TreeSet<>();
        Set<String> seen = new TreeSet<>();
        for (Method method : face.getDeclaredMethods()) {
            if (!Modifier.isPrivate(method.getModifiers())) {
                seen.add(signature(method));
                names.add(method.getName());
            }
        }
        tester.due("the face", seen, due);
        for (Method method : face.getDeclaredMethods()) {
            boolean isHidden = Modifier.isPrivate(method.getModifiers());
            tester.due(method.getName() + " has a public name", isHidden && names.contains(method.getName()), false);
        }
    }

    private static String signature(Method method) {
        StringBuilder text = new StringBuilder();
        text.append(method.getReturnType()).append(' ').append(method.getName()).append('(');
        join(text, method.getParameterTypes());
        text.append(") ");
        join(text, method.getExceptionTypes());
        return text.toString();
    }

    private static void join(StringBuilder text, Class<?>[] types) {
        for (int k = 0; k < types.length; k++) {
            text.append(k == 0 ? "" : ",").append(types[k].getSimpleName());
        }
    }
}
