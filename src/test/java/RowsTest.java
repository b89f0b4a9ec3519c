import java.io.DataInputStream;
import java.io.IOException;
import java.lang.reflect.Array;
import java.lang.reflect.Field;
import java.lang.reflect.Modifier;
import java.util.Set;
import java.util.TreeSet;

/** Terms: 'All memory is the class's own rows.' */
public final class RowsTest {
    /** The classes that LetterWeave may name: itself, rows of int, and library classes that keep nothing. */
    private static final Set<String> MAY_NAME = Set.of("LetterWeave", "[I", "[[I", "java/lang/Object",
            "java/lang/Integer", "java/lang/Math", "java/lang/System", "java/lang/IllegalArgumentException",
            "java/lang/IllegalStateException");

    public static void main(String[] args) throws IOException, IllegalAccessException {
        Check.sentence("All memory is the class's own rows.");
        onlyNumbersAndRows();
        eachObjectHasItsOwn();
        noOtherClassKeepsAnything();
        Check.end();
    }

    private static void onlyNumbersAndRows() {
        for (Field field : LetterWeave.class.getDeclaredFields()) {
            Class<?> type = field.getType();
            boolean isRow = type == int[].class || type == int[][].class;
            boolean isFinal = Modifier.isFinal(field.getModifiers());
            if (!type.isPrimitive() && !isRow) {
                Check.fault("a field that is neither a number nor a row: " + field);
            }
            if (isRow && !isFinal) {
                Check.fault("a row that is not made once in the constructor: " + field);
            }
            if (Modifier.isStatic(field.getModifiers()) && (isRow || !isFinal)) {
                Check.fault("what all objects share is no constant: " + field);
            }
        }
    }

    private static void eachObjectHasItsOwn() throws IllegalAccessException {
        LetterWeave one = new LetterWeave();
        LetterWeave other = new LetterWeave();
        for (Field field : LetterWeave.class.getDeclaredFields()) {
            if (field.getType().isArray()) {
                field.setAccessible(true);
                notShared(field.getName(), field.get(one), field.get(other));
            }
        }
    }

    private static void notShared(String name, Object one, Object other) {
        if (one == null || one == other) {
            Check.fault("two objects share the row " + name);
        } else if (one.getClass().getComponentType().isArray()) {
            for (int i = 0; i < Array.getLength(one); i++) {
                notShared(name + "[" + i + "]", Array.get(one, i), Array.get(other, i));
            }
        }
    }

    private static void noOtherClassKeepsAnything() throws IOException {
        for (String name : namedClasses()) {
            if (!MAY_NAME.contains(name)) {
                Check.fault("the class uses " + name);
            }
        }
    }

    /** The classes in the constant pool of the compiled class (the JVM's specification tells its form in 4.4). */
    private static Set<String> namedClasses() throws IOException {
        try (DataInputStream in = new DataInputStream(LetterWeave.class.getResourceAsStream("LetterWeave.class"))) {
            in.readLong();
            String[] texts = new String[in.readUnsignedShort()];
            Set<Integer> classes = new TreeSet<>();
            for (int i = 1; i < texts.length; i++) {
                switch (in.readUnsignedByte()) {
                    case 1 -> texts[i] = in.readUTF();
                    case 7 -> classes.add(in.readUnsignedShort());
                    case 8, 16 -> in.readShort();
                    case 15 -> in.readFully(new byte[3]);
                    case 5, 6 -> {
                        in.readLong();
                        i++;
                    }
                    default -> in.readInt();
                }
            }
            Set<String> names = new TreeSet<>();
            for (int text : classes) {
                names.add(texts[text]);
            }
            return names;
        }
    }
}
