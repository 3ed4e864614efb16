import java.lang.reflect.Constructor;
import java.lang.reflect.Field;
import java.lang.reflect.Method;
import java.lang.reflect.Modifier;
import java.util.Arrays;
import java.util.Set;
import java.util.TreeSet;

/** The class has the document's face, and nothing beside it that is not private. */
public final class FaceTest {
    private static final Set<String> FACE = new TreeSet<>(Arrays.asList(
            "public int NumberGoblets.enlarge(int) throws java.lang.IllegalArgumentException",
            "public int NumberGoblets.pour(int,int) throws java.lang.IndexOutOfBoundsException,"
                    + "java.lang.IllegalArgumentException,java.lang.IllegalStateException",
            "public int NumberGoblets.drink(int) throws java.lang.IndexOutOfBoundsException,"
                    + "java.lang.IllegalStateException",
            "public int NumberGoblets.pourBack(int) throws java.lang.IndexOutOfBoundsException",
            "public int NumberGoblets.share(int,int,int) throws java.lang.IndexOutOfBoundsException,"
                    + "java.lang.IllegalArgumentException",
            "public int NumberGoblets.giveBack(int) throws java.lang.IllegalStateException",
            "public int NumberGoblets.spill(int) throws java.lang.IndexOutOfBoundsException",
            "public int NumberGoblets.nextRound() throws java.lang.IllegalStateException",
            "public int NumberGoblets.size()",
            "public int NumberGoblets.round()",
            "public int NumberGoblets.inJug()",
            "public int NumberGoblets.ranges()",
            "public int NumberGoblets.rangeFrom(int) throws java.lang.IndexOutOfBoundsException",
            "public int NumberGoblets.rangeTo(int) throws java.lang.IndexOutOfBoundsException",
            "public int NumberGoblets.longestRange()",
            "public int NumberGoblets.inGoblet(int) throws java.lang.IndexOutOfBoundsException",
            "public int NumberGoblets.rangesOf(int) throws java.lang.IndexOutOfBoundsException",
            "public int NumberGoblets.nextOf(int) throws java.lang.IndexOutOfBoundsException",
            "public int NumberGoblets.placeOf(int)",
            "public int NumberGoblets.drunk()",
            "public int NumberGoblets.spilt()",
            "public int NumberGoblets.lowestLeft()"));

    private static int wrong = 0;

    private static void due(String what, Object got, Object want) {
        if (!got.equals(want)) {
            wrong++;
            System.out.println(what + " is " + got + ", due is " + want);
        }
    }

    public static void main(String[] args) {
        Class<?> program = NumberGoblets.class;
        due("the class", Modifier.toString(program.getModifiers()), "public final");
        Set<String> open = new TreeSet<>();
        Set<String> openNames = new TreeSet<>();
        for (Method method : program.getDeclaredMethods()) {
            if (!Modifier.isPrivate(method.getModifiers())) {
                open.add(method.toString());
                openNames.add(method.getName());
            }
        }
        due("the face", open, FACE);
        for (Method method : program.getDeclaredMethods()) {
            if (Modifier.isPrivate(method.getModifiers())) {
                due("private " + method.getName() + " has a public name", openNames.contains(method.getName()), false);
            }
        }
        for (Field field : program.getDeclaredFields()) {
            due("private field " + field.getName(), Modifier.isPrivate(field.getModifiers()), true);
        }
        Constructor<?>[] constructors = program.getDeclaredConstructors();
        due("constructors", constructors.length, 1);
        due("the constructor", constructors[0].toString(), "public NumberGoblets()");
        System.out.println(wrong == 0 ? "all answers are as due" : wrong + " answers are not as due");
        if (wrong != 0) {
            System.exit(1);
        }
    }
}
