import java.util.ArrayList;
import java.util.Collections;
import java.util.List;
import java.util.function.ToIntFunction;

/** What stands before the promises but for reading, sentence by sentence, at the boundaries that it names. */
public final class TermsTest extends Checks {
    private static final String NAME20 = "abcdefghijklmnopqrst";

    public static void main(String[] args) {
        atMost512Calls();
        formatAtFirst();
        upToTwelveTypes();
        upToEightMembers();
        kindsAndMarksOfTypes();
        kindsAndMarksOfMembers();
        differentTypes();
        differentMembers();
        lengthsOfNames();
        charactersOfTypeNames();
        charactersOfMemberNames();
        init();
        arrays();
        basesOfFields();
        namesInDescriptors();
        methodDescriptors();
        lengthsOfDescriptors();
        orderByCodes();
        orderOfMembers();
        formOfNothing();
        everyLineEnds();
        escapesWritten();
        end();
    }

    private static boolean isBase(int code) {
        return "BCDFIJSZ".indexOf(code) >= 0;
    }

    private static void atMost512Calls() {
        sentence("An object is used for at most 512 calls after it has been made");
        last("read", x -> x.read(1), 1);
        last("clear", x -> x.clear(), 480);
        last("type", x -> x.type('a', 1), REFUSED);
        last("write", x -> x.write(0), 462);
        last("format", x -> x.format(1, 1), 2);
        last("text", x -> x.text(479), '\n');
        last("diagnostic", x -> x.diagnostic(0, 0), 1);
        last("types", x -> x.types(1), 5);
        last("about", x -> x.about(0, 4, 2), 3);
        last("member", x -> x.member(0, 3, 7, 1), 0);
        last("character", x -> x.character(1, 3, 7, 0, 0), 'h');
        last("differ", x -> x.differ(), 0);
        last("lost", x -> x.lost(1), 0);
    }

    private static void last(String what, ToIntFunction<BaselineText> call, int want) {
        due(what + " as the 512th call", call.applyAsInt(fullAfter511()), want);
    }

    /** 480 characters of short lines: four types with eight members, and one with three. */
    private static String fullText() {
        StringBuilder all = new StringBuilder();
        for (char t = 'a'; t <= 'e'; t++) {
            all.append("enum ").append(t).append('\n').append(lines(" field # I\n", t == 'e' ? "abc" : "abcdefgh"));
        }
        return all.append("!".repeat(479 - all.length())).append('\n').toString();
    }

    /** Both baselines read, by turns, up to the 511th call. */
    private static BaselineText fullAfter511() {
        BaselineText x = typed(fullText());
        int calls = 1 + 480 / 8;
        for (; calls < 511; calls++) {
            x.read(calls % 2);
        }
        return x;
    }

    private static void formatAtFirst() {
        sentence("A BASELINE has a FORMAT 1 or 2 (2 at first)");
        for (int baseline = 0; baseline < 2; baseline++) {
            due("format at first", new BaselineText().format(baseline, 2), 2);
            BaselineText x = typed("#sig 1");
            x.read(baseline);
            due("format 1", x.format(baseline, 1), 1);
            due("format of the other one", x.format(1 - baseline, 1), 2);
        }
    }

    private static void upToTwelveTypes() {
        sentence("and up to 12 TYPES");
        reads(TWELVE, "", TWELVE);
        BaselineText x = typed(TWELVE + "enum m");
        x.read(0);
        due("types with a 13th line", x.types(0), 12);
    }

    private static void upToEightMembers() {
        sentence("and up to 8 MEMBERS");
        reads(EIGHT, "", EIGHT);
        BaselineText x = typed(EIGHT + " field i I");
        x.read(0);
        due("members with a 9th line", x.about(0, 0, 2), 8);
        String each = TOP + "enum a\n" + lines("  field # I\n", "abcdefgh") + "enum b\n" + lines("  field # I\n", "abcdefgh");
        reads(each, "", each);
    }

    /** The words of the marks in the sum, the last one first, each with a blank behind it. */
    private static String marksBackwards(String[] marks, int sum) {
        StringBuilder all = new StringBuilder();
        for (int i = marks.length - 1; i >= 0; i--) {
            all.append((sum >> i & 1) == 1 ? marks[i] + " " : "");
        }
        return all.toString();
    }

    private static String marksInOrder(String[] marks, int sum) {
        StringBuilder all = new StringBuilder();
        for (int i = 0; i < marks.length; i++) {
            all.append((sum >> i & 1) == 1 ? marks[i] + " " : "");
        }
        return all.toString();
    }

    private static void kindsAndMarksOfTypes() {
        sentence("a KIND, 0 class, 1 interface, 2 enum, 3 record, MARKS, a sum of 1 public, 2 abstract, 4 final");
        for (int kind = 0; kind < 4; kind++) {
            for (int sum = 0; sum < 8; sum++) {
                String line = TYPE_KINDS[kind] + " a\n";
                BaselineText x = typed(TOP + marksBackwards(TYPE_MARKS, sum) + line);
                due("read", x.read(0), 0);
                due("kind", x.about(0, 0, 0), kind);
                due("marks", x.about(0, 0, 1), sum);
                x.write(0);
                due("form", textOf(x), TOP + marksInOrder(TYPE_MARKS, sum) + line);
            }
        }
    }

    private static void kindsAndMarksOfMembers() {
        sentence("a KIND, 0 field, 1 method, MARKS, a sum of 1 public, 2 protected, 4 static, 8 final, 16 abstract");
        for (int kind = 0; kind < 2; kind++) {
            for (int sum = 0; sum < 32; sum++) {
                String line = MEMBER_KINDS[kind] + (kind == 0 ? " f I\n" : " f ()I\n");
                BaselineText x = typed(TOP + "enum e\n " + marksBackwards(MEMBER_MARKS, sum) + line);
                due("read", x.read(0), 0);
                due("kind", x.member(0, 0, 0, 0), kind);
                due("marks", x.member(0, 0, 0, 1), sum);
                x.write(0);
                due("form", textOf(x), TOP + "enum e\n  " + marksInOrder(MEMBER_MARKS, sum) + line);
            }
        }
    }

    private static void differentTypes() {
        sentence("Types of one baseline have different names");
        reads(TOP + "enum a\nenum a", "7@3:1", TOP + "enum a\n");
        reads(TOP + "enum a\npublic class a", "7@3:1", TOP + "enum a\n");
        reads(TOP + "enum a\nenum A\nenum aa\nenum a.a", "", TOP + "enum A\nenum a\nenum a.a\nenum aa\n");
        reads(TOP + "enum " + NAME20 + "\nenum " + NAME20, "7@3:1", TOP + "enum " + NAME20 + "\n");
        String last = NAME20.replace('t', 'u');
        reads(TOP + "enum " + NAME20 + "\nenum " + last, "", TOP + "enum " + NAME20 + "\nenum " + last + "\n");
        reads(TOP1 + "enum a%$\nenum a%$", "7@3:1", TOP1 + "enum a%$\n");
        due("two baselines may have the same", pair("enum a", "enum a").types(1), 1);
    }

    private static void differentMembers() {
        sentence("members of one type differ in name, kind or descriptor");
        String top = TOP + "enum a\n";
        reads(top + " field f I\n field f I", "7@4:2", top + "  field f I\n");
        reads(top + " field f I\n static field f I", "7@4:2", top + "  field f I\n");
        reads(top + " field f I\n field g I", "", top + "  field f I\n  field g I\n");
        reads(top + " field f I\n field f J", "", top + "  field f I\n  field f J\n");
        reads(top + " field f I\n method f ()I", "", top + "  field f I\n  method f ()I\n");
        reads(top + " method f ()I\n method f (I)I\n method f ()I", "7@5:2", top + "  method f ()I\n  method f (I)I\n");
        reads(top + " field f I\nenum b\n field f I", "", top + "  field f I\nenum b\n  field f I\n");
    }

    private static void lengthsOfNames() {
        sentence("NAMES have 1 to 20 characters");
        String top = TOP + "enum e\n";
        reads(TOP + "enum", "4@2:5", TOP);
        reads(top + " field", "4@3:7", top);
        for (int length = 1; length <= 24; length++) {
            String name = "x".repeat(length);
            boolean right = length <= 20;
            reads(TOP + "enum " + name, right ? "" : "4@2:6", TOP + (right ? "enum " + name + "\n" : ""));
            reads(top + " field " + name + " I", right ? "" : "4@3:8", top + (right ? "  field " + name + " I\n" : ""));
            reads(top + " method " + name + " ()V", right ? "" : "4@3:9", top + (right ? "  method " + name + " ()V\n" : ""));
        }
        reads(TOP + "enum " + "a.".repeat(9) + "aa", "", TOP + "enum " + "a.".repeat(9) + "aa\n");
        reads(TOP + "enum " + "a.".repeat(10) + "a", "4@2:6", TOP);
        reads("enum " + "x".repeat(475), "1@1:1 4@1:6", TOP);
    }

    private static void charactersOfTypeNames() {
        sentence("PARTS with single dots between them; a part begins with a letter, $ or _ and goes on with these and digits");
        everyCode(TOP, "class #", 4, Checks::isLetter);
        everyCode(TOP, "class a#", 4, Checks::isLetterOrDigit);
        everyCode(TOP, "class a#b", 4, code -> isLetterOrDigit(code) || code == '.');
        everyCode(TOP, "class a.#", 4, Checks::isLetter);
        everyCode(TOP, "class a.b#", 4, Checks::isLetterOrDigit);
        everyCode(TOP, "class #.a", 4, Checks::isLetter);
        reads(TOP + "class a..b", "4@2:7", TOP);
        reads(TOP + "class .", "4@2:7", TOP);
    }

    private static void charactersOfMemberNames() {
        sentence("NAMES of members are one part");
        String top = TOP + "enum e\n";
        everyCode(top, " field # I", 4, Checks::isLetter);
        everyCode(top, " field a# I", 4, Checks::isLetterOrDigit);
        everyCode(top, " field a#b I", 4, Checks::isLetterOrDigit);
        everyCode(top, " method # ()V", 4, Checks::isLetter);
        everyCode(top, " method a#b ()V", 4, Checks::isLetterOrDigit);
    }

    private static void init() {
        sentence("or <init> for a method");
        String top = TOP + "enum e\n";
        reads(top + " method <init> ()V", "", top + "  method <init> ()V\n");
        reads(top + " field <init> I", "4@3:8", top);
        reads(TOP + "enum <init>", "4@2:6", TOP);
        everyCode(top, " method #init> ()V", 4, code -> code == '<');
        everyCode(top, " method <init# ()V", 4, code -> code == '>');
        everyCode(top, " method <#nit> ()V", 4, code -> code == 'i');
        everyCode(top, " method <init>#  ()V", 4, code -> false);
        everyCode(top, " method #<init> ()V", 4, code -> false);
    }

    private static void arrays() {
        sentence("any number of [");
        String top = TOP + "enum e\n";
        for (int depth = 0; depth <= 20; depth++) {
            String opening = "[".repeat(depth);
            boolean right = depth <= 19;
            reads(top + " field f " + opening + "Z", right ? "" : "5@3:10", top + (right ? "  field f " + opening + "Z\n" : ""));
            boolean rightName = depth <= 17;
            reads(top + " field f " + opening + "La;", rightName ? "" : "5@3:10", top + (rightName ? "  field f " + opening + "La;\n" : ""));
            reads(top + " field f " + opening, depth == 0 ? "5@3:9" : "5@3:10", top);
        }
    }

    private static void basesOfFields() {
        sentence("and one of B C D F I J S Z");
        String top = TOP + "enum e\n";
        everyCode(top, " field f #", 5, TermsTest::isBase);
        everyCode(top, " field f [#", 5, TermsTest::isBase);
        everyCode(top, " field f #I", 5, code -> code == '[');
        everyCode(top, " field f I#", 5, code -> false);
    }

    private static void namesInDescriptors() {
        sentence("or L, a type name with / for every dot, and ;");
        String top = TOP + "enum e\n";
        everyCode(top, " field f #a;", 5, code -> code == 'L');
        everyCode(top, " field f L#;", 5, Checks::isLetter);
        everyCode(top, " field f La#;", 5, Checks::isLetterOrDigit);
        everyCode(top, " field f La#b;", 5, code -> isLetterOrDigit(code) || code == '/');
        everyCode(top, " field f La/#;", 5, Checks::isLetter);
        everyCode(top, " field f La#", 5, code -> code == ';');
        everyCode(top, " field f La;#", 5, code -> false);
        for (String wrong : new String[] {"L", "L;", "La", "La/", "La/;", "L/a;", "La//b;", "La;;"}) {
            reads(top + " field f " + wrong, "5@3:10", top);
        }
    }

    private static void methodDescriptors() {
        sentence("Of methods: ( , descriptors of fields or none, ) , and one of a field or V .");
        String top = TOP + "enum e\n";
        everyCode(top, " method f #)V", 5, code -> code == '(');
        everyCode(top, " method f (#V", 5, code -> code == ')');
        everyCode(top, " method f ()#", 5, code -> isBase(code) || code == 'V');
        everyCode(top, " method f ()[#", 5, TermsTest::isBase);
        everyCode(top, " method f (#)V", 5, TermsTest::isBase);
        everyCode(top, " method f (#I)V", 5, code -> isBase(code) || code == '[');
        everyCode(top, " method f (I#)V", 5, TermsTest::isBase);
        everyCode(top, " method f (La#)V", 5, code -> code == ';');
        everyCode(top, " method f (La;#b;)V", 5, code -> code == 'L');
        everyCode(top, " method f ()L#;", 5, Checks::isLetter);
        everyCode(top, " method f ()V#", 5, code -> false);
        everyCode(top, " method f ()I#", 5, code -> false);
        everyCode(top, " method f #()V", 5, code -> false);
        for (String wrong : new String[] {"(", ")", "()", "V", "I", "(I", "(I)", "([)V", "()[", "(V)V", "(()V)V"}) {
            reads(top + " method f " + wrong, "5@3:11", top);
        }
        reads(top + " field f V", "5@3:10", top);
        reads(top + " field f ()V", "5@3:10", top);
    }

    private static void lengthsOfDescriptors() {
        sentence("They have at most 20 characters");
        String top = TOP + "enum e\n";
        for (int more = 0; more <= 24; more++) {
            String field = "La" + "b".repeat(more) + ";";
            boolean right = field.length() <= 20;
            reads(top + " field f " + field, right ? "" : "5@3:10", top + (right ? "  field f " + field + "\n" : ""));
            String method = "(" + "I".repeat(more) + ")V";
            right = method.length() <= 20;
            reads(top + " method f " + method, right ? "" : "5@3:11", top + (right ? "  method f " + method + "\n" : ""));
            String result = "()La" + "b".repeat(more) + ";";
            right = result.length() <= 20;
            reads(top + " method f " + result, right ? "" : "5@3:11", top + (right ? "  method f " + result + "\n" : ""));
        }
        // What would be a right one if the characters behind the 20th did not count.
        reads(top + " field f L" + "a".repeat(18) + ";;", "5@3:10", top);
        reads(top + " method f (" + "I".repeat(17) + ")VI", "5@3:11", top);
    }

    /** Lines under the top, in several orders, of which all are to be written in the first one. */
    private static void ordered(String top, String... ordered) {
        String form = top + String.join("\n", ordered) + "\n";
        List<String> now = new ArrayList<>(List.of(ordered));
        for (int turn = 0; turn < ordered.length; turn++) {
            Collections.rotate(now, 1);
            reads(top + String.join("\n", now), "", form);
            List<String> back = new ArrayList<>(now);
            Collections.reverse(back);
            reads(top + String.join("\n", back), "", form);
        }
    }

    private static void orderByCodes() {
        sentence("ORDER is by characters, by their codes, a text before its longer continuations");
        ordered(TOP, "enum $", "enum A", "enum Z", "enum _", "enum a", "enum z");
        ordered(TOP, "enum a", "enum a$", "enum a.a", "enum a0", "enum a9", "enum aA", "enum aZ", "enum a_", "enum aa", "enum aaa", "enum az", "enum b");
        ordered(TOP, "class b", "enum c", "interface d", "record e");
        ordered(TOP, "record b", "interface c", "enum d", "class e");
        ordered(TOP, "enum " + "a".repeat(19), "enum " + "a".repeat(18) + "b", "enum " + "a".repeat(18) + "bb", "enum " + "a".repeat(18) + "bc");
    }

    private static void orderOfMembers() {
        sentence("members' lines, in the order of name, then kind, then descriptor");
        String top = TOP + "enum e\n";
        ordered(top, "  field $ I", "  method <init> ()V", "  field A I", "  field _ I", "  field a I", "  field a0 I", "  field aa I", "  field b I");
        ordered(top, "  method a ()V", "  field b I", "  method b ()V", "  field c I");
        ordered(top, "  field f I", "  field f La/b;", "  field f La;", "  field f Lab;", "  field f [I", "  field f [[I", "  method f ()I", "  method f ([I)I");
        ordered(top, "  method f (I)I", "  method f (I)V", "  method f (II)I", "  method f (La;)I", "  method fa ()I");
        ordered(top, "  public field a J", "  field b I", "  abstract field c I");
    }

    private static void formOfNothing() {
        sentence("the line \"#sig 1\" or \"#sig 2\" for the format; then the types");
        reads("", "", "#sig 2\n");
        reads("#sig 1", "", "#sig 1\n");
        reads("#sig 1\nenum a", "", "#sig 1\nenum a\n");
    }

    private static void everyLineEnds() {
        sentence("Every line, the last one too, ends with a line feed (code 10)");
        for (String text : new String[] {"#sig 2", "#sig 2\nenum a", "#sig 2\nenum a\n  field f I"}) {
            BaselineText x = typed(text);
            x.read(0);
            due("length", x.write(0), text.length() + 1);
            due("last character", x.text(text.length()), 10);
            due("line feed of the first line", x.text(6), 10);
        }
    }

    private static void escapesWritten() {
        sentence("In format 1 every character $ of a name or descriptor is written as two characters %$, in format 2 as it is");
        String plain = "#sig 2\nenum $\n  method $$ ()L$$;\n  field $f L$;\nenum a$$.$a\n  method f$f (L$;La/$;)L$;\n";
        String escaped = plain.replace("$", "%$").replace("#sig 2", "#sig 1");
        BaselineText x = typed(plain);
        due("read", x.read(0), 0);
        due("length in format 2", x.write(0), plain.length());
        due("form in format 2", textOf(x), plain);
        x.format(0, 1);
        due("length in format 1", x.write(0), escaped.length());
        due("form in format 1", textOf(x), escaped);
        reads(escaped, "", escaped);
        reads(TOP1 + "enum " + "%$".repeat(20), "", TOP1 + "enum " + "%$".repeat(20) + "\n");
    }
}
