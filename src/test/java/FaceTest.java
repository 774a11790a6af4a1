import java.lang.reflect.Constructor;
import java.lang.reflect.Field;
import java.lang.reflect.Member;
import java.lang.reflect.Method;
import java.lang.reflect.Modifier;
import java.util.Arrays;
import java.util.Set;
import java.util.TreeSet;

/** The public face of the document, and nothing else that others can see. */
public final class FaceTest {
    private static final String INDEX = " throws IllegalArgumentException, IndexOutOfBoundsException";

    public static void main(String[] args) {
        Check.due("the class", Modifier.toString(PaperParcels.class.getModifiers()), "public final");
        constants();
        constructors();
        methods();
        nestedClasses();
        Check.finish("FaceTest");
    }

    private static void constants() {
        Check.due("NONE", PaperParcels.NONE, -1);
        Check.due("SHEET", PaperParcels.SHEET, 0);
        Check.due("PARAGRAPH", PaperParcels.PARAGRAPH, 1);
        Check.due("RUN", PaperParcels.RUN, 2);
        Check.due("LIST", PaperParcels.LIST, 3);
        Check.due("ITEM", PaperParcels.ITEM, 4);
        Set<String> seen = new TreeSet<>();
        for (Field field : PaperParcels.class.getDeclaredFields()) {
            if (canBeSeen(field)) {
                seen.add(Modifier.toString(field.getModifiers()) + " " + field.getType() + " " + field.getName());
            }
            Check.due("static is final: " + field.getName(),
                    !Modifier.isStatic(field.getModifiers()) || Modifier.isFinal(field.getModifiers()), true);
        }
        String form = "public static final int ";
        Check.due("constants", seen, new TreeSet<>(Arrays.asList(form + "NONE", form + "SHEET", form + "PARAGRAPH",
                form + "RUN", form + "LIST", form + "ITEM")));
    }

    private static void constructors() {
        Constructor<?>[] all = PaperParcels.class.getDeclaredConstructors();
        Check.due("constructors", all.length + " " + all[0], "1 public PaperParcels()");
    }

    private static void methods() {
        Set<String> seen = new TreeSet<>();
        Set<String> hidden = new TreeSet<>();
        for (Method method : PaperParcels.class.getDeclaredMethods()) {
            if (canBeSeen(method)) {
                seen.add(method.toString().replace("PaperParcels.", "").replace("java.lang.", "").replace(",", ", "));
            } else {
                hidden.add(method.getName());
            }
        }
        Set<String> due = new TreeSet<>(Arrays.asList(
                "public boolean write(long)",
                "public int wipe()",
                "public int length()",
                "public int character(int)",
                "public int read(int) throws IllegalArgumentException",
                "public int place()",
                "public int nodes(int) throws IllegalArgumentException",
                "public int kind(int, int)" + INDEX,
                "public int above(int, int)" + INDEX,
                "public int look(int, int, int)" + INDEX,
                "public int letters(int, int)" + INDEX,
                "public int letter(int, int, int)" + INDEX,
                "public int compare() throws IllegalStateException",
                "public int steps()",
                "public int step(int, boolean) throws IndexOutOfBoundsException",
                "public int apply(int) throws IllegalStateException, IllegalArgumentException",
                "public int emit(int, int) throws IllegalArgumentException, IllegalStateException,"
                        + " UnsupportedOperationException"));
        Check.due("methods", seen, due);
        for (String method : due) {
            String name = method.replaceAll("\\(.*", "").replaceAll(".* ", "");
            Check.due("a hidden method named " + name, hidden.contains(name), false);
            for (Class<?> inside : PaperParcels.class.getDeclaredClasses()) {
                for (Method own : inside.getDeclaredMethods()) {
                    Check.due("a method inside named " + name, own.getName().equals(name), false);
                }
            }
        }
    }

    private static void nestedClasses() {
        Class<?>[] inside = PaperParcels.class.getDeclaredClasses();
        Check.due("classes are few", inside.length < 12, true);
        for (Class<?> one : inside) {
            int modifiers = one.getModifiers();
            Check.due(one + " is static and not public", Modifier.isStatic(modifiers)
                    && !Modifier.isPublic(modifiers) && !Modifier.isProtected(modifiers), true);
        }
    }

    private static boolean canBeSeen(Member member) {
        return !Modifier.isPrivate(member.getModifiers()) && !member.isSynthetic();
    }
}
