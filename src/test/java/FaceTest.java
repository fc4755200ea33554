import java.lang.reflect.Constructor;
import java.lang.reflect.Field;
import java.lang.reflect.Method;
import java.lang.reflect.Modifier;
import java.util.Arrays;
import java.util.Set;
import java.util.TreeSet;

/** The members that others see are those of the document's face and no others. */
public final class FaceTest {
    private static final String REFUSES = " throws java.lang.IllegalArgumentException";
    private static final Set<String> FACE = new TreeSet<>(Arrays.asList(
        "public static final int OrderLine.NONE",
        "public OrderLine()",
        "public int OrderLine.behind(int)" + REFUSES,
        "public int OrderLine.several(int,int)" + REFUSES,
        "public boolean OrderLine.remove(int)",
        "public int OrderLine.clear(int,int)" + REFUSES,
        "public int OrderLine.carry(int,int,int)" + REFUSES,
        "public int OrderLine.compare(int,int)" + REFUSES,
        "public int OrderLine.next(int,boolean)" + REFUSES,
        "public boolean OrderLine.has(int)",
        "public int OrderLine.place(int)" + REFUSES,
        "public int OrderLine.at(int)",
        "public int OrderLine.greatest(int,int)" + REFUSES,
        "public void OrderLine.wipe()",
        "public int OrderLine.look(int)"));

    private static Set<String> seen() {
        Set<String> members = new TreeSet<>();
        for (Field field : OrderLine.class.getDeclaredFields()) {
            keep(members, field.getModifiers(), field.toString());
        }
        for (Constructor<?> constructor : OrderLine.class.getDeclaredConstructors()) {
            keep(members, constructor.getModifiers(), constructor.toString());
        }
        for (Method method : OrderLine.class.getDeclaredMethods()) {
            keep(members, method.getModifiers(), method.toString());
        }
        return members;
    }

    private static void keep(Set<String> members, int modifiers, String text) {
        if (!Modifier.isPrivate(modifiers)) {
            members.add(text);
        }
    }

    public static void main(String[] args) {
        int modifiers = OrderLine.class.getModifiers();
        boolean right = modifiers == (Modifier.PUBLIC | Modifier.FINAL);
        Set<String> members = seen();
        if (!right || !members.equals(FACE)) {
            System.out.println("the face is " + Modifier.toString(modifiers) + " " + members);
            System.exit(1);
        }
        System.out.println("the face is as due");
    }
}
