/** The examples of README.md, call by call: when one changes there, it changes here. */
public final class ReadmeTest extends Checks {
    public static void main(String[] args) {
        BaselineText x = new BaselineText();
        typeAll(x, "#sig 2\npublic class a.B\n  static field f I\n  method m\n");
        due("x.read(0)", x.read(0), 1);
        due("x.diagnostic(0, 0)", x.diagnostic(0, 0), 5);
        due("x.diagnostic(0, 1)", x.diagnostic(0, 1), 4);
        due("x.diagnostic(0, 2)", x.diagnostic(0, 2), 11);
        due("x.types(0)", x.types(0), 1);
        due("x.about(0, 0, 2)", x.about(0, 0, 2), 1);
        due("x.write(0)", x.write(0), 43);
        due("x.clear()", x.clear(), 43);
        typeAll(x, "#sig 2\npublic class a.B\n method m ()V\n static field f I\n");
        due("x.read(1)", x.read(1), 0);
        due("x.differ()", x.differ(), 4);
        due("x.lost(0)", x.lost(0), 0);
        due("x.lost(1)", x.lost(1), 1);
        end();
    }

    /** As README.md has it, and not Checks.retype(), since it is the example that is tried. */
    private static void typeAll(BaselineText x, String text) {
        for (int start = 0; start < text.length(); start += 8) {
            int end = Math.min(text.length(), start + 8);
            long value = 0;
            for (int i = start; i < end; i++) {
                value = value << 8 | text.charAt(i);
            }
            x.type(value, end - start);
        }
    }
}
