/** The promises 1 to 15, one method each, as they are used; reading and the boundaries have tests of their own. */
public final class PromisesTest extends Checks {
    /** Two types, the second one with members out of order. */
    private static final String SAMPLE = "#sig 2\n"
            + "final public class b.B$C\n"
            + "  abstract final static protected public method m$ (I[La/b$;)V\n"
            + "  field m$ J\n"
            + "  field m$ I\n"
            + "  method <init> ()V\n"
            + "abstract interface a\n";

    private static final String SAMPLE_IN_2 = "#sig 2\n"
            + "abstract interface a\n"
            + "public final class b.B$C\n"
            + "  method <init> ()V\n"
            + "  field m$ I\n"
            + "  field m$ J\n"
            + "  public protected static final abstract method m$ (I[La/b$;)V\n";

    public static void main(String[] args) {
        promise1NewObject();
        promise2Type();
        promise3Clear();
        promise4Read();
        promise5Write();
        promise5WriteAllWords();
        promise6Format();
        promise7Text();
        promise8Diagnostic();
        promise9Types();
        promise10About();
        promise11Member();
        promise12Character();
        promise13Differ();
        promise14Lost();
        promise14LostAcrossFormats();
        promise15Swap();
        end();
    }

    private static BaselineText sample() {
        return pair(SAMPLE, "");
    }

    private static void promise1NewObject() {
        BaselineText x = new BaselineText();
        due("new: types(0)", x.types(0), 0);
        due("new: types(1)", x.types(1), 0);
        due("new: text(0)", x.text(0), -1);
        due("new: clear", x.clear(), 0);
        due("new: diagnostic", x.diagnostic(0, 0), REFUSED);
        due("new: differ", x.differ(), 0);
        due("new: lost(0)", x.lost(0), 0);
        due("new: format(0)", x.format(0, 1), 2);
        due("new: format(1)", x.format(1, 1), 2);
        BaselineText y = new BaselineText();
        due("another new one: format(0)", y.format(0, 2), 2);
        due("another new one: write", y.write(1), 7);
        due("another new one: text", textOf(y), "#sig 2\n");
    }

    private static void promise2Type() {
        BaselineText x = new BaselineText();
        due("type one", x.type('a', 1), 1);
        due("type the lowest bytes only", x.type(0xFF00000000414243L, 3), 4);
        due("type eight", x.type(packed("12345678"), 8), 12);
        due("typed", textOf(x), "aABC12345678");
        due("type n 0", x.type('a', 0), REFUSED);
        due("type n 9", x.type(packed("12345678"), 9), REFUSED);
        due("type n -1", x.type('a', -1), REFUSED);
        due("type n least", x.type('a', Integer.MIN_VALUE), REFUSED);
        due("type n greatest", x.type('a', Integer.MAX_VALUE), REFUSED);
        due("type a code 0 in front", x.type('a', 2), REFUSED);
        due("type a bad one last", x.type(packed("ab\t"), 3), REFUSED);
        due("type a bad one first", x.type(packed("\u00e9ab"), 3), REFUSED);
        due("type -1", x.type(-1L, 8), REFUSED);
        for (int code = 0; code < 256; code++) {
            boolean taken = code == 10 || (code >= 32 && code <= 126);
            BaselineText fresh = new BaselineText();
            due("type code " + code, fresh.type(code, 1), taken ? 1 : REFUSED);
            due("text of code " + code, fresh.text(0), taken ? code : -1);
        }
        due("refused ones added nothing", textOf(x), "aABC12345678");
    }

    private static void promise3Clear() {
        BaselineText x = typed("class A\n nonsense\n");
        x.read(0);
        due("clear", x.clear(), 18);
        due("clear again", x.clear(), 0);
        due("text after clear", x.text(0), -1);
        due("clear keeps the baselines", x.types(0), 1);
        due("clear keeps the diagnostics", x.diagnostic(1, 0), 3);
    }

    private static void promise4Read() {
        BaselineText x = typed(SAMPLE);
        due("read(2)", x.read(2), REFUSED);
        due("read(-1)", x.read(-1), REFUSED);
        due("read(0)", x.read(0), 0);
        due("the other baseline stays", x.types(1), 0);
        due("read keeps the text", textOf(x), SAMPLE);
        retype(x, "#sig 1\nenum E\nclas\n");
        due("read in place", x.read(0), 1);
        due("types then", x.types(0), 1);
        due("no member of an earlier one", x.about(0, 0, 2), 0);
        due("format then", x.format(0, 1), 1);
        due("refused read", x.read(3), REFUSED);
        due("refused read keeps types", x.types(0), 1);
        due("refused read keeps diagnostics", diagnosticsOf(x), "3@3:1");
        x.clear();
        due("read nothing", x.read(0), 0);
        due("diagnostics are of the last reading", x.diagnostic(0, 0), REFUSED);
        due("types of nothing", x.types(0), 0);
        due("format of nothing", x.format(0, 1), 2);
        retype(x, "x\n".repeat(40));
        due("read answers more than are kept", x.read(1), 41);
    }

    private static void promise5Write() {
        BaselineText x = sample();
        due("write(2)", x.write(2), REFUSED);
        due("write(-1)", x.write(-1), REFUSED);
        due("refused write keeps the text", x.text(0), -1);
        due("write", x.write(0), SAMPLE_IN_2.length());
        due("form in format 2", textOf(x), SAMPLE_IN_2);
        due("read again", x.read(1), 0);
        due("the same", x.differ(), 0);
        x.format(0, 1);
        due("write in format 1", x.write(0), SAMPLE_IN_2.length() + 5);
        due("form in format 1", textOf(x), SAMPLE_IN_2.replace("$", "%$").replace("sig 2", "sig 1"));
        due("read format 1 again", x.read(1), 0);
        due("the same in format 1", x.differ(), 0);
        due("order of names", formOf("class b\nclass a.b\nclass aa\nclass a\nclass a_\nclass a$\nclass B\n"),
                "#sig 2\nclass B\nclass a\nclass a$\nclass a.b\nclass a_\nclass aa\nclass b\n");
        due("order of members", formOf("class a\n method f ()V\n method f ()I\n field f [I\n field f Z\n field e J\n method fa ()V\n"),
                "#sig 2\nclass a\n  field e J\n  field f Z\n  field f [I\n  method f ()I\n  method f ()V\n  method fa ()V\n");
    }

    private static void promise5WriteAllWords() {
        String types = "public class a\nabstract interface b\nfinal enum c\nrecord d\npublic abstract final class e\n";
        String members = "  public field a I\n  protected field b I\n  static field c I\n  final field d I\n"
                + "  abstract method e ()V\n  public protected static final abstract method f ()V\n";
        due("all words", formOf("#sig 2\n" + types + members), "#sig 2\n" + types + members);
        due("words in any order", formOf("#sig 2\nfinal abstract public class a\n abstract final static protected public field f I"),
                "#sig 2\npublic abstract final class a\n  public protected static final abstract field f I\n");
    }

    private static String formOf(String text) {
        BaselineText x = typed(text);
        x.read(0);
        x.write(0);
        return textOf(x);
    }

    private static void promise6Format() {
        BaselineText x = sample();
        due("format to 1", x.format(0, 1), 2);
        due("format to 1 again", x.format(0, 1), 1);
        due("format of the other one", x.format(1, 2), 2);
        due("format 0", x.format(0, 0), REFUSED);
        due("format 3", x.format(0, 3), REFUSED);
        due("format -1", x.format(0, -1), REFUSED);
        due("baseline 2", x.format(2, 1), REFUSED);
        due("baseline -1", x.format(-1, 1), REFUSED);
        due("names stay", nameOf(x, 0, 1, 0, -1), "b.B$C");
        due("refused ones changed nothing", x.format(0, 2), 1);
        due("back at 2", x.format(0, 2), 2);
    }

    private static void promise7Text() {
        BaselineText x = typed("ab\n");
        due("text(0)", x.text(0), 'a');
        due("text(2)", x.text(2), 10);
        due("text(3)", x.text(3), -1);
        due("text(-1)", x.text(-1), -1);
        due("text least", x.text(Integer.MIN_VALUE), -1);
        due("text greatest", x.text(Integer.MAX_VALUE), -1);
        retype(x, "z");
        due("nothing of a longer text before", x.text(1), -1);
    }

    private static void promise8Diagnostic() {
        BaselineText x = typed("#sig 2\n\nclass A  b\n");
        x.read(0);
        due("number", x.diagnostic(0, 0), 6);
        due("line", x.diagnostic(0, 1), 3);
        due("place", x.diagnostic(0, 2), 10);
        due("what 3", x.diagnostic(0, 3), REFUSED);
        due("what -1", x.diagnostic(0, -1), REFUSED);
        due("index 1", x.diagnostic(1, 0), REFUSED);
        due("index -1", x.diagnostic(-1, 0), REFUSED);
        due("index least", x.diagnostic(Integer.MIN_VALUE, 0), REFUSED);
        due("index greatest", x.diagnostic(Integer.MAX_VALUE, 0), REFUSED);
        retype(x, "#sig 2\n" + "x\n".repeat(25));
        due("read 25", x.read(1), 25);
        due("line of the 20th", x.diagnostic(19, 1), 21);
        due("no 21st is kept", x.diagnostic(20, 0), REFUSED);
        x.swap();
        x.clear();
        x.write(0);
        due("kept until the next reading", x.diagnostic(19, 0), 3);
    }

    private static void promise9Types() {
        BaselineText x = sample();
        due("types(0)", x.types(0), 2);
        due("types(1)", x.types(1), 0);
        due("types(2)", x.types(2), REFUSED);
        due("types(-1)", x.types(-1), REFUSED);
    }

    private static void promise10About() {
        BaselineText x = sample();
        due("kind of a", x.about(0, 0, 0), 1);
        due("marks of a", x.about(0, 0, 1), 2);
        due("members of a", x.about(0, 0, 2), 0);
        due("name's length of a", x.about(0, 0, 3), 1);
        due("kind of b.B$C", x.about(0, 1, 0), 0);
        due("marks of b.B$C", x.about(0, 1, 1), 5);
        due("members of b.B$C", x.about(0, 1, 2), 4);
        due("name's length of b.B$C", x.about(0, 1, 3), 5);
        due("what 4", x.about(0, 0, 4), REFUSED);
        due("what -1", x.about(0, 0, -1), REFUSED);
        due("t 2", x.about(0, 2, 0), REFUSED);
        due("t -1", x.about(0, -1, 0), REFUSED);
        due("t greatest", x.about(0, Integer.MAX_VALUE, 0), REFUSED);
        due("baseline 1 has none", x.about(1, 0, 0), REFUSED);
        due("baseline 2", x.about(2, 0, 0), REFUSED);
        x = pair("enum e\nrecord r\n", "");
        due("kind of an enum", x.about(0, 0, 0), 2);
        due("kind of a record", x.about(0, 1, 0), 3);
        due("read fewer", readInto0(x, "enum e"), 1);
        due("the second one is gone", x.about(0, 1, 0), REFUSED);
    }

    private static int readInto0(BaselineText x, String text) {
        retype(x, text);
        return x.read(0);
    }

    private static void promise11Member() {
        BaselineText x = sample();
        due("kind of <init>", x.member(0, 1, 0, 0), 1);
        due("marks of <init>", x.member(0, 1, 0, 1), 0);
        due("name's length of <init>", x.member(0, 1, 0, 2), 6);
        due("descriptor's length of <init>", x.member(0, 1, 0, 3), 3);
        due("kind of m$ I", x.member(0, 1, 1, 0), 0);
        due("marks of the method m$", x.member(0, 1, 3, 1), 31);
        due("descriptor's length of the method m$", x.member(0, 1, 3, 3), 11);
        due("what 4", x.member(0, 1, 0, 4), REFUSED);
        due("what -1", x.member(0, 1, 0, -1), REFUSED);
        due("m 4", x.member(0, 1, 4, 0), REFUSED);
        due("m -1", x.member(0, 1, -1, 0), REFUSED);
        due("m least", x.member(0, 1, Integer.MIN_VALUE, 0), REFUSED);
        due("a type without members", x.member(0, 0, 0, 0), REFUSED);
        due("t 2", x.member(0, 2, 0, 0), REFUSED);
        due("t -1", x.member(0, -1, 0, 0), REFUSED);
        due("baseline 1 has none", x.member(1, 1, 0, 0), REFUSED);
        due("baseline -1", x.member(-1, 1, 0, 0), REFUSED);
    }

    private static void promise12Character() {
        BaselineText x = sample();
        due("type name 0", nameOf(x, 0, 0, 0, -1), "a");
        due("type name 1", nameOf(x, 0, 1, 0, -1), "b.B$C");
        due("m means nothing for a type", x.character(0, 1, -7, -1, 0), 'b');
        due("m means nothing for a type", x.character(0, 0, 99, -1, 0), 'a');
        due("member name", nameOf(x, 0, 1, 0, 0), "<init>");
        due("descriptor", nameOf(x, 0, 1, 3, 1), "(I[La/b$;)V");
        due("descriptors in order", nameOf(x, 0, 1, 1, 1) + nameOf(x, 0, 1, 2, 1), "IJ");
        due("index -1", x.character(0, 1, 0, 0, -1), -1);
        due("index behind", x.character(0, 1, 0, 0, 6), -1);
        due("index least", x.character(0, 1, 0, 1, Integer.MIN_VALUE), -1);
        due("index greatest", x.character(0, 1, 0, -1, Integer.MAX_VALUE), -1);
        due("which 2", x.character(0, 1, 0, 2, 0), -1);
        due("which -2", x.character(0, 1, 0, -2, 0), -1);
        due("m 4", x.character(0, 1, 4, 0, 0), -1);
        due("m -1", x.character(0, 1, -1, 1, 0), -1);
        due("t 2", x.character(0, 2, 0, -1, 0), -1);
        due("t -1", x.character(0, -1, 0, -1, 0), -1);
        due("baseline 1 has none", x.character(1, 0, 0, -1, 0), -1);
        due("baseline 2", x.character(2, 0, 0, -1, 0), -1);
    }

    private static void promise13Differ() {
        String one = "#sig 2\nclass a\n  field f I\n  field g I\nclass b\n  field f I\n";
        due("the same", difference(one, one), 0);
        due("the same in other words", difference(one, "!\n#sig  2\nclass b\n field f I\n\nclass a\n field g I\n field f I"), 0);
        due("formats", difference(one, one.replace("sig 2", "sig 1")), 1);
        due("marks of a type", difference(one, one.replace("class a", "final class a")), 2);
        due("kind of a type", difference(one, one.replace("class a", "enum a")), 2);
        due("name of a type", difference(one, one.replace("class a", "class aa")), 2);
        due("kind of a later type", difference(one, one.replace("class b", "enum b")), 5);
        due("marks of a member", difference(one, one.replace("field g", "static field g")), 4);
        due("descriptor of a first member", difference(one, one.replace("f I\n  field g", "f B\n  field g")), 3);
        due("descriptor of a member", difference(one, one.replace("g I", "g J")), 4);
        due("name of a member", difference(one, one.replace("f I\n  field g", "f I\n  field h")), 4);
        due("kind of a member", difference(one, one.replace("field g I", "method g ()I")), 4);
        due("a member less, then a type", difference(one, one.replace("  field g I\n", "")), 4);
        due("a member less, then the end", difference(one, one.substring(0, one.length() - 12)), 6);
        due("a type less", difference(one, "#sig 2\nclass a\n  field f I\n  field g I\n"), 5);
        due("against an empty one", difference(one, ""), 2);
        due("both empty", difference("", ""), 0);
        String twelve = "enum a\nenum b\nenum c\nenum d\nenum e\nenum f\nenum g\nenum h\nenum i\nenum j\nenum k\nenum l\n";
        due("twelve types", difference(twelve, twelve), 0);
        due("the twelfth type", difference(twelve, twelve.replace("enum l", "class l")), 13);
        String eight = "enum a\n field a I\n field b I\n field c I\n field d I\n field e I\n field f I\n field g I\n field h I\n";
        due("the eighth member", difference(eight, eight.replace("h I", "h J")), 10);
        due("a type behind the eighth member", difference(eight, eight + "enum b"), 11);
    }

    private static void promise14Lost() {
        String one = "#sig 2\nclass a\n  field f I\n  field g I\nclass b\n  field f J\n";
        BaselineText x = pair(one, one);
        due("nothing lost", x.lost(0), 0);
        due("lost(2)", x.lost(2), REFUSED);
        due("lost(-1)", x.lost(-1), REFUSED);
        due("a type less", lostOf(one, "class a\n field f I\n field g I"), 2);
        due("a type more", lostOf("class a\n field f I\n field g I", one), 0);
        due("a type's marks", lostOf(one, one.replace("class a", "public class a")), 1);
        due("a type's kind", lostOf(one, one.replace("class a", "record a")), 1);
        due("a member's marks", lostOf(one, one.replace("field g", "final field g")), 1);
        due("a member's descriptor", lostOf(one, one.replace("g I", "g [I")), 1);
        due("a member's kind", lostOf("class a\n field f I", "class a\n method f ()I"), 1);
        due("members of another type do not count", lostOf(one, "class a\n field f J\nclass b\n field f I\n field g I"), 3);
        due("all of it", lostOf(one, ""), 5);
        due("nothing of nothing", lostOf("", one), 0);
        x = pair(one, "class b\n field f J");
        due("lost(0)", x.lost(0), 3);
        due("lost(1)", x.lost(1), 0);
    }

    private static int lostOf(String text0, String text1) {
        return pair(text0, text1).lost(0);
    }

    private static void promise14LostAcrossFormats() {
        String one = "#sig 2\nclass a$\n field f I\n field g$ I\n field h La$;\nclass $\nclass b\nclass c\n";
        BaselineText x = pair(one, one);
        x.format(1, 1);
        due("lines with $ are written otherwise", x.lost(0), 4);
        due("and the other way", x.lost(1), 4);
        x.format(0, 1);
        due("formats alike again", x.lost(0), 0);
    }

    private static void promise15Swap() {
        BaselineText x = pair("#sig 1\nclass a\nclass b\n", "#sig 2\nenum c\n z\n");
        x.swap();
        due("types(0)", x.types(0), 1);
        due("types(1)", x.types(1), 2);
        due("name", nameOf(x, 0, 0, 0, -1), "c");
        due("diagnostics stay", diagnosticsOf(x), "3@3:2");
        due("the text stays", textOf(x), "#sig 2\nenum c\n z\n");
        due("format(0)", x.format(0, 2), 2);
        due("format(1)", x.format(1, 1), 1);
        retype(x, "record d");
        x.read(0);
        due("reading changes one only", x.types(1), 2);
        x.swap();
        due("swapped back", x.types(0), 2);
        due("swapped back", nameOf(x, 1, 0, 0, -1), "d");
    }
}
