/** Reading, as the document's terms tell it: each text with its diagnostics and what was taken of it. */
public final class ReadingTest {
    private static final Checks CHECKS = new Checks();
    private static final String TOP = "#sig 2\n";

    public static void main(String[] args) {
        firstLine();
        linesAndWords();
        typeWords();
        memberWords();
        typeNames();
        memberNames();
        fieldDescriptors();
        methodDescriptors();
        escapes();
        alikeAndTooMany();
        brokenTypes();
        manyDiagnostics();
        rereading();
        CHECKS.end();
    }

    /** Diagnostics as "number@line:place"; the form as write() gives it. */
    private static void reads(String text, String diagnostics, String form) {
        BaselineText x = Checks.typed(text);
        int answer = x.read(0);
        int told = diagnostics.isEmpty() ? 0 : diagnostics.split(" ").length;
        CHECKS.due("read of [" + text + "]", answer, told);
        CHECKS.due("diagnostics of [" + text + "]", Checks.diagnosticsOf(x), diagnostics);
        x.write(0);
        CHECKS.due("form of [" + text + "]", Checks.textOf(x), form);
    }

    private static void firstLine() {
        reads("", "", TOP);
        reads("\n\n  \n! #sig 1", "", TOP);
        reads("#sig 2", "", TOP);
        reads("#sig 1", "", "#sig 1\n");
        reads("   #sig    1   ", "", "#sig 1\n");
        reads("!\n   !\n\n#sig 1\nenum e", "", "#sig 1\nenum e\n");
        reads("#sig 3", "1@1:1 3@1:1", TOP);
        reads("  #sig 0", "1@1:3 3@1:3", TOP);
        reads("#sig", "1@1:1 3@1:1", TOP);
        reads("#sig 1 1", "1@1:1 3@1:1", TOP);
        reads("#sig 11", "1@1:1 3@1:1", TOP);
        reads("#sig1", "1@1:1 3@1:1", TOP);
        reads("sig 1", "1@1:1 3@1:1", TOP);
        reads("#SIG 1", "1@1:1 3@1:1", TOP);
        reads("\nenum e\n field f I", "1@2:1", TOP + "enum e\n  field f I\n");
        reads("enum e f\n nonsense\nenum g", "1@1:1 6@1:8", TOP + "enum g\n");
        reads(" field f I\nenum e", "1@1:2 9@1:2", TOP + "enum e\n");
        reads("enum a$\n#sig 1\n nonsense\nenum b$", "1@1:1 3@2:1", TOP + "enum a$\nenum b$\n");
        reads("#sig 1\n#sig 1", "3@2:1", "#sig 1\n");
    }

    private static void linesAndWords() {
        reads(TOP + "enum e", "", TOP + "enum e\n");
        reads(TOP + "enum   e   \n     field    f    I    ", "", TOP + "enum e\n  field f I\n");
        reads(TOP + "\n\n\nenum\n", "4@5:5", TOP);
        reads(TOP + "enum e\n\n ! nonsense\n!\n field f I", "", TOP + "enum e\n  field f I\n");
        reads(TOP + "enum e !", "6@2:8", TOP);
        reads(TOP + "Enum e", "3@2:1", TOP);
    }

    private static void typeWords() {
        reads(TOP + "final public abstract record r", "", TOP + "public abstract final record r\n");
        reads(TOP + "public final public class a", "2@2:14", TOP);
        reads(TOP + "final  final", "2@2:8", TOP);
        reads(TOP + "public abstract final abstract class a", "2@2:23", TOP);
        reads(TOP + "static class a", "3@2:1", TOP);
        reads(TOP + "public protected class a", "3@2:8", TOP);
        reads(TOP + "public field a", "3@2:8", TOP);
        reads(TOP + "public  ", "3@2:7", TOP);
        reads(TOP + "public abstract final", "3@2:22", TOP);
        reads(TOP + "class", "4@2:6", TOP);
        reads(TOP + "class public", "", TOP + "class public\n");
        reads(TOP + "class class", "", TOP + "class class\n");
        reads(TOP + "class a  public", "6@2:10", TOP);
        reads(TOP + "class 1 public", "4@2:7", TOP);
    }

    private static void memberWords() {
        String top = TOP + "enum e\n";
        reads(top + " abstract static field f I", "", top + "  static abstract field f I\n");
        reads(top + " static public static field f I", "2@3:16", top);
        reads(top + " public protected static final abstract public field f I", "2@3:41", top);
        reads(top + " class f", "3@3:2", top);
        reads(top + " final", "3@3:7", top);
        reads(top + " final fields f I", "3@3:8", top);
        reads(top + "  method", "4@3:9", top);
        reads(top + "  method m", "5@3:11", top);
        reads(top + "  method m ()V  x y", "6@3:17", top);
        reads(top + " field field I", "", top + "  field field I\n");
    }

    private static void typeNames() {
        for (String name : new String[] {"a", "z", "A", "Z", "$", "_", "a0", "z9", "$.$", "a.b.c", "_9._9", "aaaaaaaaaabbbbbbbbbb", "a.b.c.d.e.f.g.h.i.jk"}) {
            reads(TOP + "enum " + name, "", TOP + "enum " + name + "\n");
        }
        for (String name : new String[] {"1", "1a", ".", ".a", "a.", "a..b", "a.1", "a-b", "a/b", "<init>", "a%", "%$", "@", "[", "`", "{",
            "aaaaaaaaaabbbbbbbbbbc", "a".repeat(200)}) {
            reads(TOP + "enum " + name, "4@2:6", TOP);
        }
    }

    private static void memberNames() {
        String top = TOP + "enum e\n";
        for (String name : new String[] {"a", "$", "_1", "aaaaaaaaaabbbbbbbbbb"}) {
            reads(top + " field " + name + " I", "", top + "  field " + name + " I\n");
            reads(top + " method " + name + " ()V", "", top + "  method " + name + " ()V\n");
        }
        for (String name : new String[] {"1", "a.b", "a/b", "<init", "init>", "<clinit>", "<init>x", "ainit>", "a.b.cd", "aaaaaaaaaabbbbbbbbbbc"}) {
            reads(top + " field " + name + " I", "4@3:8", top);
            reads(top + " method " + name + " ()V", "4@3:9", top);
        }
        reads(top + " method <init> ()V", "", top + "  method <init> ()V\n");
        reads(top + " method <init> (I)I", "", top + "  method <init> (I)I\n");
        reads(top + " field <init> I", "4@3:8", top);
        reads(TOP + "enum <init>", "4@2:6", TOP);
    }

    private static void fieldDescriptors() {
        String top = TOP + "enum e\n";
        for (String descriptor : new String[] {"B", "C", "D", "F", "I", "J", "S", "Z", "[I", "[[[[Z", "La;", "La/b;", "[La/b$;", "LL;", "LI;",
            "[[[[[[[[[[[[[[[[[[[I", "Laaaaaaaaaabbbbbbbb;"}) {
            reads(top + " field f " + descriptor, "", top + "  field f " + descriptor + "\n");
        }
        for (String descriptor : new String[] {"V", "A", "b", "[", "[V", "II", "I[", "L;", "La", "L", "La.b;", "La//b;", "L/a;", "La/;", "L1;",
            "La;I", "a;", ";", "()V", "La%$;", "Laaaaaaaaaabbbbbbbb;I", "[[[[[[[[[[[[[[[[[[[[I", "Laaaaaaaaaabbbbbbbbb;"}) {
            reads(top + " field f " + descriptor, "5@3:10", top);
        }
    }

    private static void methodDescriptors() {
        String top = TOP + "enum e\n";
        for (String descriptor : new String[] {"()V", "()I", "()[I", "()La/b;", "(I)V", "(IJ[Z)V", "(La;[Lb;)Lc;", "(IIIIIIIIIIIIIIIII)V",
            "()Laaaaaaaaaabbbbbb;"}) {
            reads(top + " method f " + descriptor, "", top + "  method f " + descriptor + "\n");
        }
        for (String descriptor : new String[] {"I", "V", "(", ")", "()", "(V)V", "()[V", "()VV", "()II", "()VI", "(I", "(IV", "([)V", "(La)V", "(a)V",
            "()V)", "(()V)V", "(I)", ")V", "x)V", "(IIIIIIIIIIIIIIIII)VV", "()L;", "(L;)V", "(IIIIIIIIIIIIIIIIII)V", "()Laaaaaaaaaabbbbbbb;", "((((((((((((((((((((("}) {
            reads(top + " method f " + descriptor, "5@3:11", top);
        }
    }

    private static void escapes() {
        String top = "#sig 1\nenum e\n";
        reads("#sig 1\nenum %$", "", "#sig 1\nenum %$\n");
        reads("#sig 1\nenum a%$%$.%$1", "", "#sig 1\nenum a%$%$.%$1\n");
        reads("#sig 1\nenum $", "4@2:6", "#sig 1\n");
        reads("#sig 1\nenum %", "4@2:6", "#sig 1\n");
        reads("#sig 1\nenum a%", "4@2:6", "#sig 1\n");
        reads("#sig 1\nenum %$$", "4@2:6", "#sig 1\n");
        reads("#sig 1\nenum %%$", "4@2:6", "#sig 1\n");
        reads("#sig 1\nenum a$%", "4@2:6", "#sig 1\n");
        reads("#sig 1\nenum a% $", "4@2:6", "#sig 1\n");
        reads("#sig 1\nenum a%\n$", "4@2:6 3@3:1", "#sig 1\n");
        reads("#sig 1\nenum " + "%$".repeat(20), "", "#sig 1\nenum " + "%$".repeat(20) + "\n");
        reads("#sig 1\nenum " + "%$".repeat(21), "4@2:6", "#sig 1\n");
        reads(top + " field %$ L%$;", "", top + "  field %$ L%$;\n");
        reads(top + " field a$ I", "4@3:8", top);
        reads(top + " field a La$;", "5@3:10", top);
        reads(top + " field a La%;", "5@3:10", top);
        reads(top + " method a (L%$;)L%$a;", "", top + "  method a (L%$;)L%$a;\n");
        reads("#sig 1\npublic%$ class a", "3@2:1", "#sig 1\n");
        BaselineText x = Checks.typed("#sig 1\nenum a%$\n field %$b L%$;");
        x.read(1);
        CHECKS.due("type name", Checks.nameOf(x, 1, 0, 0, -1), "a$");
        CHECKS.due("member name", Checks.nameOf(x, 1, 0, 0, 0), "$b");
        CHECKS.due("descriptor", Checks.nameOf(x, 1, 0, 0, 1), "L$;");
        CHECKS.due("length", x.about(1, 0, 3), 2);
    }

    private static void alikeAndTooMany() {
        reads(TOP + "enum a\nfinal class a", "7@3:1", TOP + "enum a\n");
        reads(TOP + "enum a\nenum b x\nenum b", "6@3:8", TOP + "enum a\nenum b\n");
        reads(TOP + "enum a\n field f I\n  final field f I\n field f J\n method f ()I\n method f ()I",
                "7@4:3 7@7:2", TOP + "enum a\n  field f I\n  field f J\n  method f ()I\n");
        reads(TOP + "enum a\n field f I\nenum b\n field f I", "", TOP + "enum a\n  field f I\nenum b\n  field f I\n");
        String twelve = TOP + "enum a\nenum b\nenum c\nenum d\nenum e\nenum f\nenum g\nenum h\nenum i\nenum j\nenum k\nenum l\n";
        reads(twelve, "", twelve);
        reads(twelve + "enum m\n nonsense\nenum n\nenum a\nenum 1", "8@14:1 8@16:1 7@17:1 4@18:6", twelve);
        reads(twelve + " field f I", "", twelve + "  field f I\n");
        String eight = TOP + "enum a\n  field a I\n  field b I\n  field c I\n  field d I\n  field e I\n  field f I\n  field g I\n  field h I\n";
        reads(eight, "", eight);
        reads(eight + "   field i I\n field a I\n field a V\nenum b\n field i I", "8@11:4 7@12:2 5@13:10", eight + "enum b\n  field i I\n");
    }

    private static void brokenTypes() {
        reads(TOP + " field f I\n field f V\nenum a", "9@2:2 5@3:10", TOP + "enum a\n");
        reads(TOP + "enum 1\n field f I\n nonsense\n\nenum a\n field f I", "4@2:6", TOP + "enum a\n  field f I\n");
        reads(TOP + "enum a\n field f I\nenum a\n field g I\n nonsense", "7@4:1", TOP + "enum a\n  field f I\n");
        reads(TOP + "enum a\n nonsense\n field f I", "3@3:2", TOP + "enum a\n  field f I\n");
        reads(TOP + "final enum enum a\n field f I", "6@2:17", TOP);
    }

    /** Nothing of longer names that stood there before counts. */
    private static void rereading() {
        String shorter = TOP + "enum a\n  field f I\n  field fg I\nenum ab\n  field f [I\n";
        for (String tail : new String[] {"z", "$", "g$"}) {
            BaselineText x = Checks.typed(TOP + "enum a#\n field f# [[I\n field g# I\nenum b#\n field f# I\n".replace("#", tail));
            x.read(0);
            Checks.retype(x, shorter);
            CHECKS.due("read in place of longer names", x.read(0), 0);
            CHECKS.due("write", x.write(0), shorter.length());
            CHECKS.due("form", Checks.textOf(x), shorter);
            x.read(1);
            CHECKS.due("the same", x.differ(), 0);
            x.format(1, 1);
            CHECKS.due("no $ left", x.lost(0), 0);
        }
    }

    private static void manyDiagnostics() {
        BaselineText x = Checks.typed("x\n".repeat(240));
        CHECKS.due("read of 240 broken lines", x.read(0), 241);
        CHECKS.due("the first ones", x.diagnostic(0, 0) * 100 + x.diagnostic(1, 0), 103);
        CHECKS.due("line of the last one kept", x.diagnostic(19, 1), 19);
        CHECKS.due("behind the last one kept", x.diagnostic(20, 1), BaselineText.REFUSED);
    }
}
