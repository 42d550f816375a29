import java.lang.reflect.Constructor;
import java.lang.reflect.Field;
import java.lang.reflect.Method;
import java.lang.reflect.Modifier;
import java.util.TreeSet;

/** The class shows what the document's face shows, and nothing else. */
public final class FaceTest extends Checks {
    private static final String FACE = String.join("\n",
            "public BaselineText()",
            "public int BaselineText.about(int,int,int)",
            "public int BaselineText.character(int,int,int,int,int)",
            "public int BaselineText.clear()",
            "public int BaselineText.diagnostic(int,int)",
            "public int BaselineText.differ()",
            "public int BaselineText.format(int,int)",
            "public int BaselineText.lost(int)",
            "public int BaselineText.member(int,int,int,int)",
            "public int BaselineText.read(int)",
            "public int BaselineText.text(int)",
            "public int BaselineText.type(long,int)",
            "public int BaselineText.types(int)",
            "public int BaselineText.write(int)",
            "public static final int BaselineText.REFUSED",
            "public void BaselineText.swap()");

    public static void main(String[] args) {
        TreeSet<String> seen = new TreeSet<>();
        for (Constructor<?> one : BaselineText.class.getDeclaredConstructors()) {
            note(seen, one.getModifiers(), one.toString());
        }
        for (Method one : BaselineText.class.getDeclaredMethods()) {
            note(seen, one.getModifiers(), one.toString());
        }
        for (Field one : BaselineText.class.getDeclaredFields()) {
            note(seen, one.getModifiers(), one.toString());
        }
        due("the face", String.join("\n", seen), FACE);
        due("final class", Modifier.isFinal(BaselineText.class.getModifiers()) ? 1 : 0, 1);
        due("REFUSED", BaselineText.REFUSED, -1);
        end();
    }

    private static void note(TreeSet<String> seen, int modifiers, String member) {
        if (!Modifier.isPrivate(modifiers)) {
            seen.add(member);
        }
    }
}
