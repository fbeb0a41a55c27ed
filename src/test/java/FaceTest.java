import java.lang.reflect.Constructor;
import java.lang.reflect.Field;
import java.lang.reflect.Method;
import java.lang.reflect.Modifier;
import java.nio.file.Files;
import java.nio.file.Path;
import java.util.Set;
import java.util.TreeSet;

/** The public face: every member of the document, and no other, in its order; run in the project's folder. */
public final class FaceTest {
    private static final String A = " IllegalArgumentException";
    private static final String I = " IndexOutOfBoundsException";
    private static final String S = " IllegalStateException";

    private static final String[] METHODS = {
        "int horse(int,int)" + A + S, "int price(int,int,int)" + I + A + S, "int take(int,int,boolean)" + I + A + S,
        "int layOff(int,int,int,int)" + I + A + S, "int withdraw(int)" + I + S, "int settle()" + A + S,
        "int set(int,int)" + I + A + S, "int append(int)" + A + S, "int clearBuffer()", "int firstError()",
        "int keep(int)" + A, "int goBack(int)" + A + S, "int undo()" + S, "int horseOf(int,int)" + I + A,
        "int bet(int,int)" + I + A, "int laid(int,int)" + I + A, "int count(int)" + A, "int setting(int)" + I,
        "int ifArrived()", "int ifWon(int)" + I, "int worst()", "int cover(int)" + I, "double safeShare()",
        "long digest()",
    };

    /** The calls in the order of the document, and what "the interface says" ahead of them. */
    private static final String IN_ORDER = "[horses, bets] horse price take layOff withdraw settle set "
            + "[the buffer, snapshots] append clearBuffer firstError keep goBack undo "
            + "[looks; nothing is changed] horseOf bet laid count setting "
            + "[what would be; nothing is changed] ifArrived ifWon worst cover safeShare digest ";

    public static void main(String[] args) throws Exception {
        Set<String> want = new TreeSet<>(Set.of(METHODS));
        Set<String> got = new TreeSet<>();
        Set<String> names = new TreeSet<>();
        for (Method method : FieldBook.class.getDeclaredMethods()) {
            if (!Modifier.isPrivate(method.getModifiers())) {
                got.add(told(method));
                names.add(method.getName());
                Check.due(method + " is static", Modifier.isStatic(method.getModifiers()) ? 1 : 0, 0);
            }
        }
        if (!want.equals(got)) {
            System.out.println("the face is " + got + ", due is " + want);
            Check.due("the face", 0, 1);
        }
        Check.due("public", Modifier.isPublic(FieldBook.class.getModifiers()) ? 1 : 0, 1);
        Check.due("final", Modifier.isFinal(FieldBook.class.getModifiers()) ? 1 : 0, 1);
        Constructor<?>[] made = FieldBook.class.getDeclaredConstructors();
        Check.due("constructors", made.length, 1);
        Check.due("public constructor without arguments",
                Modifier.isPublic(made[0].getModifiers()) && made[0].getParameterCount() == 0 ? 1 : 0, 1);
        fields();
        inOrder();
        noNameTwice(names);
        Check.due("NONE", FieldBook.NONE, -1);
        Check.end();
    }

    private static void inOrder() throws Exception {
        StringBuilder got = new StringBuilder();
        for (String line : Files.readAllLines(Path.of("src", "main", "java", "FieldBook.java"))) {
            if (line.startsWith("    // ---- ")) {
                got.append('[').append(line.substring(12)).append("] ");
            } else if (line.matches("    public \\w+ \\w+\\(.*")) {
                got.append(line.replaceAll("    public \\w+ (\\w+)\\(.*", "$1 "));
            }
        }
        // behind the face stand the class's own parts, with headings of their own
        Check.due("the calls in order", got.substring(0, Math.min(got.length(), IN_ORDER.length())), IN_ORDER);
    }

    private static String told(Method method) {
        StringBuilder line = new StringBuilder();
        line.append(method.getReturnType().getName()).append(' ').append(method.getName()).append('(');
        String between = "";
        for (Class<?> type : method.getParameterTypes()) {
            line.append(between).append(type.getName());
            between = ",";
        }
        line.append(')');
        for (Class<?> type : method.getExceptionTypes()) {
            line.append(' ').append(type.getSimpleName());
        }
        return line.toString();
    }

    private static void fields() {
        for (Field field : FieldBook.class.getDeclaredFields()) {
            int flags = field.getModifiers();
            boolean none = field.getName().equals("NONE");
            Check.due("visibility of " + field, none == Modifier.isPublic(flags) && none != Modifier.isPrivate(flags) ? 1 : 0, 1);
            Check.due("static but not final: " + field, Modifier.isStatic(flags) && !Modifier.isFinal(flags) ? 1 : 0, 0);
        }
    }

    /** Rule 1 of LANGUAGE.md: no method of its own bears the name of one of the face. */
    private static void noNameTwice(Set<String> names) {
        for (Method method : FieldBook.class.getDeclaredMethods()) {
            if (Modifier.isPrivate(method.getModifiers())) {
                Check.due("name of " + method, names.contains(method.getName()) ? 1 : 0, 0);
            }
        }
        for (Class<?> inside : FieldBook.class.getDeclaredClasses()) {
            Check.due("static: " + inside, Modifier.isStatic(inside.getModifiers()) ? 1 : 0, 1);
            for (Method method : inside.getDeclaredMethods()) {
                Check.due("name of " + method, names.contains(method.getName()) ? 1 : 0, 0);
            }
        }
    }
}
