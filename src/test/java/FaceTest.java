import java.lang.reflect.Constructor;
import java.lang.reflect.Field;
import java.lang.reflect.Method;
import java.lang.reflect.Modifier;
import java.util.HashSet;
import java.util.Set;
import java.util.TreeSet;

/** The public face is the document's and no more, and no private method bears a name of it. */
public final class FaceTest {
    private static final String BAD = "java.lang.IllegalArgumentException";
    private static final String BOTH = BAD + ",java.lang.IllegalStateException";

    public static void main(String[] args) {
        Check.sentence("The public face");
        Check.due("the class's modifiers", Modifier.toString(LetterWeave.class.getModifiers()), "public final");
        Check.due("the class's methods", faceMethods().toString(), dueMethods().toString());
        constructors();
        noOtherMember();
        Check.end();
    }

    private static Set<String> dueMethods() {
        Set<String> due = new TreeSet<>();
        due.add("public int LetterWeave.insert(int,int,int) throws " + BOTH);
        due.add("public int LetterWeave.remove(int,int) throws " + BOTH);
        due.add("public void LetterWeave.bring(int,int,int) throws " + BOTH);
        due.add("public int LetterWeave.merge(int,int) throws " + BAD);
        due.add("public int LetterWeave.length(int) throws " + BAD);
        due.add("public int LetterWeave.letter(int,int) throws " + BAD);
        due.add("public int LetterWeave.name(int,int) throws " + BAD);
        due.add("public int LetterWeave.has(int,int) throws " + BAD);
        return due;
    }

    private static Set<String> faceMethods() {
        Set<String> face = new TreeSet<>();
        for (Method method : LetterWeave.class.getDeclaredMethods()) {
            if (!Modifier.isPrivate(method.getModifiers())) {
                face.add(method.toString());
            }
        }
        return face;
    }

    private static void constructors() {
        Constructor<?>[] all = LetterWeave.class.getDeclaredConstructors();
        Check.due("how many constructors", all.length, 1);
        Check.due("the constructor", all[0].toString(), "public LetterWeave()");
    }

    private static void noOtherMember() {
        for (Field field : LetterWeave.class.getDeclaredFields()) {
            if (!Modifier.isPrivate(field.getModifiers())) {
                Check.fault("a field that is not private: " + field);
            }
        }
        Set<String> names = new HashSet<>();
        for (Method method : LetterWeave.class.getDeclaredMethods()) {
            if (!names.add(method.getName())) {
                Check.fault("two methods with the name " + method.getName());
            }
        }
    }
}
