import java.util.function.Consumer;
import java.util.function.ToIntFunction;

/** An object's 512 calls, and the promises 1 to 15, sentence by sentence, at the boundaries that they name. */
public final class BoundariesTest extends Checks {
    /** Some of them would be 0, 1 or 2 if only their lowest bits were looked at. */
    private static final int[] NO_BASELINES = {-1, 2, 3, -2, 256, 257, 65536, 65537, Integer.MIN_VALUE, Integer.MIN_VALUE + 1, Integer.MAX_VALUE};
    private static final int[] NO_FORMATS = {0, 3, -1, -2, 257, 258, 65537, 65538, Integer.MIN_VALUE + 1, Integer.MIN_VALUE + 2, Integer.MAX_VALUE};
    private static final int[] FAR_INDICES = {-1, -2, -256, 256, 65536, Integer.MIN_VALUE, Integer.MIN_VALUE + 1, Integer.MAX_VALUE};

    private static final String NAME20 = "abcdefghijklmnopqrst";
    private static final String DESCRIPTOR20 = "[[[[[[[[[[[[[[[[[[[I";

    /** What busy() makes: its state as stateOf() tells it, and its baselines' forms. */
    private static final String BUSY_STATE = "text enum z\n\ndiagnostics 1@1:1 3@3:1\n0 1{2 4 $(1 4 m ()V)}\n1 2{0 0 b(0 0 f L$;)}{3 0 c}";
    private static final String BUSY_FORM0 = "#sig 1\nfinal enum %$\n  static method m ()V\n";
    private static final String BUSY_FORM1 = "#sig 2\nclass b\n  field f L$;\nrecord c\n";

    public static void main(String[] args) {
        fiveHundredAndTwelveCalls();
        promise1Empty();
        promise1Apart();
        promise2LowestBytes();
        promise2AnotherN();
        promise2Codes();
        promise2Full();
        promise3Clear();
        promise4InPlace();
        promise4Empty();
        promise4Answers();
        promise4AnotherBaseline();
        promise5CanonicalForm();
        promise5Above480();
        promise5AnotherBaseline();
        promise6Format();
        promise6Refused();
        promise7Text();
        promise8Diagnostic();
        promise8NoSuchOne();
        promise9Types();
        promise10About();
        promise11Member();
        promise12Character();
        promise12NoCharacter();
        promise13Lines();
        promise13OnlyOneHasIt();
        promise13Same();
        promise14TypeLines();
        promise14MemberLines();
        promise14FirstLine();
        promise14AnotherBaseline();
        promise15Swap();
        asksChangeNothing();
        end();
    }

    /** Something of everything: two baselines in different formats, a text that is neither's form, diagnostics. */
    private static BaselineText busy() {
        BaselineText x = pair("#sig 1\nfinal enum %$\n static method m ()V\n", "class b\n field f L$;\nx\nrecord c");
        x.clear();
        x.type(packed("enum z\n"), 7);
        return x;
    }

    /** All that can be had: twelve types, and in the first one eight members with names and descriptors of 20 characters. */
    private static BaselineText full() {
        StringBuilder text = new StringBuilder();
        for (char t = 'l'; t >= 'a'; t--) {
            text.append("enum ").append(t).append('\n');
        }
        for (char m = 'h'; m >= 'a'; m--) {
            text.append(" field ").append(m).append(NAME20.substring(1)).append(' ').append(DESCRIPTOR20).append('\n');
        }
        return pair("", text.toString());
    }

    /** The call answers REFUSED and changes nothing. */
    private static void refused(String what, ToIntFunction<BaselineText> call) {
        BaselineText x = busy();
        String before = stateOf(x);
        due(what, call.applyAsInt(x), REFUSED);
        due("the state behind " + what, stateOf(x), before);
    }

    private static void fiveHundredAndTwelveCalls() {
        sentence("An object is used for at most 512 calls after it has been made");
        BaselineText x = new BaselineText();
        for (int call = 1; call <= 512; call++) {
            due("call " + call + ", type", x.type('x', 1), call <= 480 ? call : REFUSED);
        }
        x = new BaselineText();
        x.type(packed("enum a$\n"), 8);
        for (int call = 2; call <= 508; call++) {
            due("call " + call + ", read", x.read(call % 2), 1);
        }
        x.swap();
        due("call 510, format", x.format(0, 1), 2);
        due("call 511, write", x.write(0), 16);
        due("call 512, lost", x.lost(1), 1);
    }

    private static void promise1Empty() {
        sentence("Two empty baselines, 0 and 1, an empty text, no diagnostics.");
        due("state", stateOf(new BaselineText()), "text \ndiagnostics \n0 2\n1 2");
        BaselineText x = new BaselineText();
        due("types(0)", x.types(0), 0);
        due("types(1)", x.types(1), 0);
        due("about", x.about(0, 0, 0), REFUSED);
        due("member", x.member(1, 0, 0, 0), REFUSED);
        due("character", x.character(0, 0, 0, -1, 0), -1);
        due("text(0)", x.text(0), -1);
        due("text(479)", x.text(479), -1);
        due("diagnostic(0, 0)", x.diagnostic(0, 0), REFUSED);
        due("differ", x.differ(), 0);
        due("lost(0)", x.lost(0), 0);
        due("lost(1)", x.lost(1), 0);
        due("clear", x.clear(), 0);
        due("write(0)", x.write(0), 7);
        due("read of the empty text", new BaselineText().read(1), 0);
    }

    private static void promise1Apart() {
        sentence("A new object has nothing of an earlier one");
        BaselineText early = busy();
        String before = stateOf(early);
        BaselineText late = new BaselineText();
        due("the new one", stateOf(late), stateOf(new BaselineText()));
        late.type('q', 1);
        late.read(0);
        late.format(1, 1);
        late.swap();
        due("the earlier one", stateOf(early), before);
    }

    private static void promise2LowestBytes() {
        sentence("the n (1 .. 8) lowest bytes of value, the most significant of them first; answers its length");
        long value = packed("abcdefgh");
        for (int n = 1; n <= 8; n++) {
            BaselineText x = typed("xyz");
            due("type with n " + n, x.type(value, n), 3 + n);
            due("text with n " + n, textOf(x), "xyz" + "abcdefgh".substring(8 - n));
        }
        for (int n = 1; n < 8; n++) {
            for (int above : new int[] {0, 9, 11, 31, 127, 128, 255}) {
                BaselineText x = new BaselineText();
                long lowest = value & ((1L << 8 * n) - 1);
                due("type with a wrong byte above", x.type((long) above << 8 * n | lowest, n), n);
                due("text with a wrong byte above", textOf(x), "abcdefgh".substring(8 - n));
            }
        }
        BaselineText x = new BaselineText();
        due("the greatest value", x.type(0x7E7E7E7E7E7E7E7EL, 8), 8);
        due("the least value", x.type(0x0A0A0A0A0A0A0A0AL, 8), 16);
        due("text", textOf(x), "~".repeat(8) + "\n".repeat(8));
    }

    private static void promise2AnotherN() {
        sentence("Another n: REFUSED, and none is added");
        long value = packed("abcdefgh");
        for (int n : new int[] {0, 9, -1, -8, 10, 16, 64, 256, 257, 264, 65537, Integer.MIN_VALUE, Integer.MIN_VALUE + 1, Integer.MAX_VALUE}) {
            refused("type with n " + n, x -> x.type(value, n));
        }
    }

    private static void promise2Codes() {
        sentence("a code that is neither 10 nor 32 .. 126: REFUSED, and none is added");
        for (int code = 0; code < 256; code++) {
            boolean right = code == 10 || (code >= 32 && code <= 126);
            for (int place = 0; place < 8; place++) {
                int shift = 8 * place;
                long value = packed("abcdefgh") & ~(0xFFL << shift) | (long) code << shift;
                BaselineText x = typed("xyz");
                due("code " + code + " at " + place, x.type(value, 8), right ? 11 : REFUSED);
                due("length then", x.clear(), right ? 11 : 3);
            }
            BaselineText alone = new BaselineText();
            due("code " + code + " alone", alone.type(code, 1), right ? 1 : REFUSED);
            due("text of code " + code, alone.text(0), right ? code : -1);
        }
        refused("type with codes 9", x -> x.type(packed("ab\tc"), 4));
        refused("type of -1", x -> x.type(-1L, 8));
        refused("type of 0", x -> x.type(0L, 8));
        refused("type of the least value", x -> x.type(Long.MIN_VALUE, 8));
    }

    private static void promise2Full() {
        sentence("or more than 480: REFUSED, and none is added");
        for (int length = 471; length <= 480; length++) {
            for (int n = 1; n <= 8; n++) {
                BaselineText x = typed("x".repeat(length));
                boolean fits = length + n <= 480;
                due("type " + n + " at " + length, x.type(packed("abcdefgh"), n), fits ? length + n : REFUSED);
                due("character at " + length, x.text(length), fits ? 'h' - n + 1 : -1);
                due("length then", x.clear(), fits ? length + n : length);
            }
        }
        BaselineText x = typed("x".repeat(478));
        due("three more", x.type(packed("abc"), 3), REFUSED);
        due("two more", x.type(packed("ab"), 2), 480);
        due("one more", x.type('c', 1), REFUSED);
        due("the last character", x.text(479), 'b');
    }

    private static void promise3Clear() {
        sentence("Empties the text; answers how many characters it had.");
        for (int length : new int[] {0, 1, 8, 9, 479, 480}) {
            BaselineText x = typed("x".repeat(length));
            due("clear of " + length, x.clear(), length);
            due("text(0) then", x.text(0), -1);
            due("clear again", x.clear(), 0);
            due("room for 480 again", retype(x, "y".repeat(480)), 480);
        }
        BaselineText x = busy();
        due("cleared, then typed", stateOf(x), BUSY_STATE);
        due("clear", x.clear(), 7);
        due("nothing but the text is emptied", stateOf(x), BUSY_STATE.replace("enum z\n", ""));
        x.write(0);
        due("clear of what was written", x.clear(), BUSY_FORM0.length());
    }

    private static void promise4InPlace() {
        sentence("Reads the text into the baseline (0 or 1), in place of what it had");
        for (int baseline = 0; baseline < 2; baseline++) {
            BaselineText x = busy();
            String other = baselineOf(x, 1 - baseline);
            due("read", x.read(baseline), 1);
            due("what is read", baselineOf(x, baseline), "2{2 0 z}");
            due("the other baseline", baselineOf(x, 1 - baseline), other);
            due("the text", textOf(x), "enum z\n");
            due("the diagnostics", diagnosticsOf(x), "1@1:1");
            due("read once more", x.read(baseline), 1);
            due("what is read once more", baselineOf(x, baseline), "2{2 0 z}");
        }
        BaselineText x = full();
        retype(x, "#sig 2\nenum a\n field f I\n");
        due("read over a full one", x.read(1), 0);
        due("its second type is gone", x.about(1, 1, 0), REFUSED);
        due("its second member is gone", x.member(1, 0, 1, 0), REFUSED);
        due("the end of its names is gone", x.character(1, 0, 0, 0, 1), -1);
        due("nothing of the full one", baselineOf(x, 1), "2{2 0 a(0 0 f I)}");
        retype(x, "#sig 2\nenum a\nenum b\n");
        x.read(1);
        due("no members of an earlier one", baselineOf(x, 1), "2{2 0 a}{2 0 b}");
        retype(x, TWELVE);
        due("the 12 are free again", x.read(1), 0);
        due("twelve", x.types(1), 12);
    }

    private static void promise4Empty() {
        sentence("Reads the text: an empty one");
        for (int baseline = 0; baseline < 2; baseline++) {
            BaselineText x = busy();
            x.clear();
            due("read", x.read(baseline), 0);
            due("the baseline", baselineOf(x, baseline), "2");
            due("no diagnostics", diagnosticsOf(x), "");
        }
    }

    private static void promise4Answers() {
        sentence("answers how many diagnostics there are (not only those kept)");
        for (int wrong : new int[] {0, 1, 19, 20, 21, 22, 40, 236}) {
            BaselineText x = typed("#sig 2\n" + "x\n".repeat(wrong));
            due("read of " + wrong + " wrong lines", x.read(1), wrong);
        }
        BaselineText x = typed("x\n".repeat(240));
        due("read of 240 wrong lines, the first one twice", x.read(0), 241);
        due("read again does not add to them", x.read(0), 241);
        retype(x, "#sig 2\nx\n");
        due("fewer than before", x.read(0), 1);
        due("none of those before", diagnosticsOf(x), "3@2:1");
    }

    private static void promise4AnotherBaseline() {
        sentence("REFUSED for another baseline.");
        for (int baseline : NO_BASELINES) {
            refused("read(" + baseline + ")", x -> x.read(baseline));
        }
    }

    private static void promise5CanonicalForm() {
        sentence("The text becomes the canonical form of the baseline (0 or 1); answers its length");
        BaselineText x = busy();
        String before = stateOf(x);
        due("write(0)", x.write(0), BUSY_FORM0.length());
        due("nothing but the text has changed", stateOf(x), before.replace("text enum z\n", "text " + BUSY_FORM0));
        int length = BUSY_FORM1.length();
        due("write(1)", x.write(1), length);
        due("form of 1", textOf(x), BUSY_FORM1);
        due("typing goes on behind it", x.type('x', 1), length + 1);
        due("character there", x.text(length), 'x');
        retype(x, "y".repeat(480));
        due("write over a full text", x.write(1), length);
        due("nothing of the longer one", x.text(length), -1);
        due("write of nothing", new BaselineText().write(1), 7);
    }

    /** A text of 430 characters and the name; its form has 473 and the name, since each of 36 members gets a blank more. */
    private static String crowded(String lastName) {
        StringBuilder all = new StringBuilder();
        for (String name : new String[] {"a", "b", "c", "d", lastName}) {
            all.append("enum ").append(name).append('\n');
            for (char m = 'a'; m < (name.equals(lastName) ? 'e' : 'i'); m++) {
                all.append(" field ").append(m).append(" I\n");
            }
        }
        return all.toString();
    }

    private static void promise5Above480() {
        sentence("or REFUSED if that is above 480 (the text stays)");
        for (int length = 1; length <= 20; length++) {
            BaselineText x = pair(crowded("e".repeat(length)), "keep");
            due("write of " + (473 + length), x.write(0), length <= 7 ? 473 + length : REFUSED);
            due("text then", x.text(0), length <= 7 ? '#' : 'k');
            due("its length then", x.clear(), length <= 7 ? 473 + length : 4);
        }
        BaselineText x = pair(crowded("e$eeeee"), "keep");
        x.format(0, 1);
        due("a $ that makes it 481", x.write(0), REFUSED);
        due("the text stays", textOf(x), "keep");
        due("the other one can be written", x.write(1), 7);
        x.format(0, 2);
        due("without it", x.write(0), 480);
        due("the last character", x.text(479), '\n');
        due("a full text takes no more", x.type('x', 1), REFUSED);
        x = full();
        due("far above 480", x.write(1), REFUSED);
        due("the types stay", x.types(1), 12);
        due("the text stays", x.clear(), 476);
    }

    private static void promise5AnotherBaseline() {
        sentence("or for another baseline");
        for (int baseline : NO_BASELINES) {
            refused("write(" + baseline + ")", x -> x.write(baseline));
        }
    }

    private static void promise6Format() {
        sentence("Gives the baseline (0 or 1) a format (1 or 2); answers the one before.");
        BaselineText x = busy();
        String before = stateOf(x);
        due("0: 1 to 1", x.format(0, 1), 1);
        due("0: 1 to 2", x.format(0, 2), 1);
        due("0: 2 to 2", x.format(0, 2), 2);
        due("0: 2 to 1", x.format(0, 1), 2);
        due("1: 2 to 1", x.format(1, 1), 2);
        due("1: 1 to 1", x.format(1, 1), 1);
        due("nothing but the format has changed", stateOf(x), before.replace("\n1 2{", "\n1 1{"));
    }

    private static void promise6Refused() {
        sentence("REFUSED.");
        for (int baseline : NO_BASELINES) {
            refused("format(" + baseline + ", 1)", x -> x.format(baseline, 1));
            refused("format(" + baseline + ", 2)", x -> x.format(baseline, 2));
            refused("format(" + baseline + ", 3)", x -> x.format(baseline, 3));
        }
        for (int format : NO_FORMATS) {
            refused("format(0, " + format + ")", x -> x.format(0, format));
            refused("format(1, " + format + ")", x -> x.format(1, format));
        }
    }

    private static void promise7Text() {
        sentence("The character at the index (from 0) of the text, or -1.");
        for (int length : new int[] {0, 1, 7, 479, 480}) {
            String text = "ab\ncd ~".repeat(69).substring(0, length);
            BaselineText x = typed("z".repeat(480));
            retype(x, text);
            for (int index : new int[] {0, 1, 2, 6, 478, 479, 480}) {
                due("text(" + index + ") of " + length, x.text(index), index < length ? text.charAt(index) : -1);
            }
            for (int index : FAR_INDICES) {
                due("text(" + index + ") of " + length, x.text(index), index >= 0 && index < length ? text.charAt(index) : -1);
            }
            due("text(481) of " + length, x.text(481), -1);
            due("text(512) of " + length, x.text(512), -1);
        }
    }

    private static void promise8Diagnostic() {
        sentence("Of the diagnostic kept at the index (from 0): its number (0), line (1), place (2)");
        BaselineText x = typed("\n  final\nenum a b\n");
        due("read", x.read(0), 3);
        int[][] kept = {{1, 2, 3}, {3, 2, 8}, {6, 3, 8}};
        for (int i = 0; i < 3; i++) {
            for (int what = 0; what < 3; what++) {
                due("diagnostic(" + i + ", " + what + ")", x.diagnostic(i, what), kept[i][what]);
            }
        }
        x = typed(" ".repeat(474) + "method");
        x.read(0);
        due("the greatest place", x.diagnostic(1, 2), 481);
        x = typed("\n".repeat(479) + "x");
        x.read(0);
        due("the greatest line", x.diagnostic(0, 1), 480);
    }

    private static void promise8NoSuchOne() {
        sentence("REFUSED for no such one.");
        for (int wrong : new int[] {0, 1, 2, 19, 20, 21, 40}) {
            BaselineText x = typed("#sig 2\n" + "x\n".repeat(wrong));
            x.read(0);
            for (int index : new int[] {0, 1, 2, 18, 19, 20, 21, 39}) {
                boolean kept = index < wrong && index < 20;
                due("number " + index + " of " + wrong, x.diagnostic(index, 0), kept ? 3 : REFUSED);
                due("line " + index + " of " + wrong, x.diagnostic(index, 1), kept ? index + 2 : REFUSED);
                due("place " + index + " of " + wrong, x.diagnostic(index, 2), kept ? 1 : REFUSED);
            }
        }
        for (int far : FAR_INDICES) {
            refused("diagnostic(" + far + ", 0)", x -> x.diagnostic(far, 0));
            refused("diagnostic(0, " + far + ")", x -> x.diagnostic(0, far));
        }
        refused("diagnostic(0, 3)", x -> x.diagnostic(0, 3));
        refused("diagnostic(2, 0)", x -> x.diagnostic(2, 0));
    }

    private static void promise9Types() {
        sentence("How many types the baseline has");
        String names = "abcdefghijklmn";
        for (int count = 0; count <= 14; count++) {
            BaselineText x = typed(TOP + lines("enum #\n", names.substring(0, count)));
            due("diagnostics of " + count, x.read(1), Math.max(0, count - 12));
            due("types of " + count, x.types(1), Math.min(count, 12));
            due("types of the other one", x.types(0), 0);
        }
        sentence("REFUSED for another baseline.");
        for (int baseline : NO_BASELINES) {
            refused("types(" + baseline + ")", x -> x.types(baseline));
        }
    }

    private static void promise10About() {
        sentence("Of type t (from 0, in canonical order): its kind (0), marks (1), how many members it has (2), the length of its name (3)");
        BaselineText x = full();
        for (int t = 0; t < 12; t++) {
            due("kind of " + t, x.about(1, t, 0), 2);
            due("marks of " + t, x.about(1, t, 1), 0);
            due("members of " + t, x.about(1, t, 2), t == 0 ? 8 : 0);
            due("length of " + t, x.about(1, t, 3), 1);
        }
        x = pair("#sig 1\npublic abstract final record " + "%$".repeat(20), "class a");
        due("kind, the greatest", x.about(0, 0, 0), 3);
        due("marks, the greatest", x.about(0, 0, 1), 7);
        due("length, the greatest", x.about(0, 0, 3), 20);
        due("kind, the least", x.about(1, 0, 0), 0);
        sentence("REFUSED for no such one.");
        due("t 12 of 12", full().about(1, 12, 0), REFUSED);
        due("what 4 of a full one", full().about(1, 11, 4), REFUSED);
        refused("t 1 of 1", y -> y.about(0, 1, 0));
        refused("t 2 of 2", y -> y.about(1, 2, 0));
        refused("what 4", y -> y.about(0, 0, 4));
        for (int far : FAR_INDICES) {
            refused("about(0, " + far + ", 0)", y -> y.about(0, far, 0));
            refused("about(0, 0, " + far + ")", y -> y.about(0, 0, far));
        }
        for (int baseline : NO_BASELINES) {
            refused("about(" + baseline + ", 0, 0)", y -> y.about(baseline, 0, 0));
        }
        due("of an empty baseline", new BaselineText().about(0, 0, 0), REFUSED);
    }

    private static void promise11Member() {
        sentence("Of member m (from 0, in canonical order) of type t: its kind (0), marks (1), the lengths of its name (2) and descriptor (3)");
        BaselineText x = full();
        for (int m = 0; m < 8; m++) {
            due("kind of " + m, x.member(1, 0, m, 0), 0);
            due("marks of " + m, x.member(1, 0, m, 1), 0);
            due("name of " + m, x.member(1, 0, m, 2), 20);
            due("descriptor of " + m, x.member(1, 0, m, 3), 20);
        }
        x = pair("#sig 1\nenum e\n public protected static final abstract method %$ ()L%$;\n field a I", "");
        due("kind, the greatest", x.member(0, 0, 0, 0), 1);
        due("marks, the greatest", x.member(0, 0, 0, 1), 31);
        due("name without escapes", x.member(0, 0, 0, 2), 1);
        due("descriptor without escapes", x.member(0, 0, 0, 3), 5);
        due("the least descriptor", x.member(0, 0, 1, 3), 1);
        sentence("REFUSED for no such one.");
        due("m 8 of 8", full().member(1, 0, 8, 0), REFUSED);
        due("m 0 of none", full().member(1, 11, 0, 0), REFUSED);
        due("t 12 of 12", full().member(1, 12, 0, 0), REFUSED);
        refused("m 1 of 1", y -> y.member(0, 0, 1, 0));
        refused("what 4", y -> y.member(0, 0, 0, 4));
        refused("t 1 of 1", y -> y.member(0, 1, 0, 0));
        for (int far : FAR_INDICES) {
            refused("member(0, " + far + ", 0, 0)", y -> y.member(0, far, 0, 0));
            refused("member(0, 0, " + far + ", 0)", y -> y.member(0, 0, far, 0));
            refused("member(0, 0, 0, " + far + ")", y -> y.member(0, 0, 0, far));
        }
        for (int baseline : NO_BASELINES) {
            refused("member(" + baseline + ", 0, 0, 0)", y -> y.member(baseline, 0, 0, 0));
        }
    }

    private static void promise12Character() {
        sentence("The character at the index of the name of type t (which -1), or of the name (0) or descriptor (1) of its member m");
        BaselineText x = full();
        for (int t = 0; t < 12; t++) {
            due("name of type " + t, x.character(1, t, 0, -1, 0), 'a' + t);
        }
        for (int m = 0; m < 8; m++) {
            due("name of member " + m, x.character(1, 0, m, 0, 0), 'a' + m);
            due("its last character", x.character(1, 0, m, 0, 19), 't');
            due("descriptor of member " + m, x.character(1, 0, m, 1, 0), '[');
            due("its last character", x.character(1, 0, m, 1, 19), 'I');
        }
        x = pair("#sig 1\nenum a%$" + NAME20.substring(2) + "\n method <init> (L%$;)V", "");
        due("type's name", nameOf(x, 0, 0, 0, -1), "a$" + NAME20.substring(2));
        due("member's name", nameOf(x, 0, 0, 0, 0), "<init>");
        due("descriptor", nameOf(x, 0, 0, 0, 1), "(L$;)V");
        sentence("(m means nothing for -1.)");
        for (int m : new int[] {0, 1, 8, -1, Integer.MIN_VALUE, Integer.MAX_VALUE}) {
            due("m " + m, x.character(0, 0, m, -1, 0), 'a');
            due("m " + m + " of a type without members", full().character(1, 11, m, -1, 0), 'l');
        }
    }

    private static void promise12NoCharacter() {
        sentence("-1 if there is none");
        BaselineText x = full();
        due("behind a type's name", x.character(1, 0, 0, -1, 1), -1);
        due("behind a name of 20", x.character(1, 0, 7, 0, 20), -1);
        due("behind a descriptor of 20", x.character(1, 0, 7, 1, 20), -1);
        due("a type has no descriptor", x.character(1, 11, 0, 1, 0), -1);
        due("t 12 of 12", x.character(1, 12, 0, -1, 0), -1);
        due("m 8 of 8, name", x.character(1, 0, 8, 0, 0), -1);
        due("m 8 of 8, descriptor", x.character(1, 0, 8, 1, 0), -1);
        due("which 2", x.character(1, 0, 0, 2, 0), -1);
        due("which -2", x.character(1, 0, 0, -2, 0), -1);
        due("an empty baseline", x.character(0, 0, 0, -1, 0), -1);
        for (int far : FAR_INDICES) {
            refused("t " + far, y -> y.character(0, far, 0, -1, 0));
            refused("t " + far + " of a member", y -> y.character(0, far, 0, 0, 0));
            refused("m " + far, y -> y.character(0, 0, far, 0, 0));
            refused("index " + far + " of a type", y -> y.character(0, 0, 0, -1, far));
            refused("index " + far + " of a name", y -> y.character(0, 0, 0, 0, far));
            refused("index " + far + " of a descriptor", y -> y.character(0, 0, 0, 1, far));
            if (far != -1) {
                refused("which " + far, y -> y.character(0, 0, 0, far, 0));
            }
        }
        for (int baseline : NO_BASELINES) {
            refused("baseline " + baseline, y -> y.character(baseline, 0, 0, -1, 0));
            refused("baseline " + baseline + " of a member", y -> y.character(baseline, 0, 0, 0, 0));
        }
    }

    private static void promise13Lines() {
        sentence("The number of the first line (from 1) in which the canonical forms of the two baselines differ: the characters of the line");
        String one = "#sig 2\npublic enum a\n  static field f I\nclass b\n  method m ()V\n";
        due("the first line", difference(one, one.replace("#sig 2", "#sig 1")), 1);
        due("the first line of empty ones", difference("#sig 1", "#sig 2"), 1);
        due("the first line before others", difference(one, "#sig 1\nenum z"), 1);
        String[][] changes = {{"public enum", "enum", "2"}, {"enum", "class", "2"}, {"a\n", "a0\n", "2"}, {"static field", "field", "3"}, {"static", "final", "3"},
            {"f I", "g I", "3"}, {"f I", "ff I", "3"}, {"f I", "f J", "3"}, {"f I", "f [I", "3"}, {"class", "final class", "4"}, {"class b", "class b.b", "4"},
            {"method m ()", "method m (I)", "5"}, {"method m ()V", "field m I", "5"}, {"method m ()V", "method m ()I", "5"}};
        for (String[] change : changes) {
            due(change[0] + " and " + change[1], difference(one, one.replace(change[0], change[1])), Integer.parseInt(change[2]));
        }
        due("two differences", difference(one, one.replace("class", "enum").replace("field", "final field")), 3);
        String long20 = crowded("e".repeat(20));
        due("a line behind the 480th character", difference(long20, long20.substring(0, long20.length() - 2) + "J"), 42);
    }

    private static void promise13OnlyOneHasIt() {
        sentence("or only one has it");
        String one = "#sig 2\nenum a\n  field f I\n  field g I\nenum b\n  field h I\n";
        due("a last member", difference(one, one.replace("  field h I\n", "")), 6);
        due("a last type", difference(one.replace("  field h I\n", ""), "#sig 2\nenum a\n  field f I\n  field g I\n"), 5);
        due("a member before a type", difference(one, one.replace("  field g I\n", "")), 4);
        due("all of it", difference(one, ""), 2);
        due("all of one type", difference("#sig 1\nenum a", "#sig 1"), 2);
        BaselineText full = full();
        due("a full one and an empty one", full.differ(), 2);
        due("an eighth member", difference(EIGHT, EIGHT.replace("  field h I\n", "")), 10);
        due("a twelfth type", difference(TWELVE, TWELVE.replace("enum l\n", "")), 13);
        due("the last member of the twelfth type", difference(TWELVE + " field f I", TWELVE), 14);
    }

    private static void promise13Same() {
        sentence("0 if they are the same");
        due("empty ones", difference("", ""), 0);
        due("empty ones in format 1", difference("#sig 1", "#sig 1"), 0);
        due("other orders", difference("enum a\n field f I\n field g I\nenum b", "#sig 2\n\nenum b\n!\nenum a\n field g I\n field f I"), 0);
        due("twelve types", difference(lines("enum #\n", "abcdefghijkl"), lines("enum #\n", "lkjihgfedcba")), 0);
        due("too long to be written", difference(crowded(NAME20), crowded(NAME20)), 0);
        BaselineText x = pair("#sig 1\nenum a%$", "#sig 2\nenum a$");
        due("formats", x.differ(), 1);
        x.format(1, 1);
        due("the same format", x.differ(), 0);
        x.format(0, 2);
        x.format(1, 2);
        due("the other format", x.differ(), 0);
    }

    /** What baseline 0 has lost, and what it has in turn that baseline 1 has not. */
    private static void lost(String what, String text0, String text1, int want0, int want1) {
        BaselineText x = pair(text0, text1);
        due(what + ": lost(0)", x.lost(0), want0);
        due(what + ": lost(1)", x.lost(1), want1);
    }

    private static void promise14TypeLines() {
        sentence("How many lines do not stand in that of the other one (a type's line: a line that is the same)");
        lost("nothing and nothing", "", "", 0, 0);
        lost("a type and nothing", "enum a", "", 1, 0);
        lost("the same", "enum a\nenum b", "enum b\nenum a", 0, 0);
        lost("other kinds", "enum a", "class a", 1, 1);
        lost("other marks", "public enum a", "public final enum a", 1, 1);
        lost("other names", "enum a", "enum aa", 1, 1);
        lost("more types", "enum a\nenum b\nenum c", "enum b", 2, 0);
        lost("twelve", lines("enum #\n", "abcdefghijkl"), lines("enum #\n", "abcdefghijkz"), 1, 1);
        lost("twelve and none", lines("enum #\n", "abcdefghijkl"), "", 12, 0);
        lost("too long to be written", crowded(NAME20), "", 41, 0);
        due("a full one", full().lost(1), 20);
    }

    private static void promise14MemberLines() {
        sentence("a member's: the same line of a type with the same name");
        lost("the same", "enum a\n field f I\n field g I", "enum a\n field g I\n field f I", 0, 0);
        lost("a type that is written otherwise", "enum a\n field f I", "public class a\n field f I", 1, 1);
        lost("a type that lacks", "enum a\n field f I\n field g I", "enum b", 3, 1);
        lost("a type with another name", "enum a\n field f I", "enum a\nenum b\n field f I", 1, 2);
        lost("other marks", "enum a\n field f I", "enum a\n static field f I", 1, 1);
        lost("another kind", "enum a\n field f I", "enum a\n method f ()I", 1, 1);
        lost("another name", "enum a\n field f I", "enum a\n field ff I", 1, 1);
        lost("another descriptor", "enum a\n field f I", "enum a\n field f J", 1, 1);
        lost("the last of eight", "enum a\n" + lines(" field # I\n", "abcdefgh"), "enum a\n" + lines(" field # I\n", "abcdefgz"), 1, 1);
        lost("eight and none", "enum a\n" + lines(" field # I\n", "abcdefgh"), "enum a", 8, 0);
        lost("marks told apart from kinds", "class a\n public field f I", "interface a\n protected field f I", 2, 2);
    }

    private static void promise14FirstLine() {
        sentence("the first line does not count");
        lost("formats of empty ones", "#sig 1", "#sig 2", 0, 0);
        lost("formats alone", "#sig 1\nenum a\n field f I", "#sig 2\nenum a\n field f I", 0, 0);
        sentence("lines of the canonical form: with $ they are written otherwise in another format");
        lost("a type's name", "#sig 1\nenum a%$\n field f I", "#sig 2\nenum a$\n field f I", 1, 1);
        lost("a member's name", "#sig 1\nenum a\n field f%$ I", "#sig 2\nenum a\n field f$ I", 1, 1);
        lost("a descriptor", "#sig 1\nenum a\n field f L%$;", "#sig 2\nenum a\n field f L$;", 1, 1);
        lost("at the beginning", "#sig 1\nenum %$a\n field %$f I", "#sig 2\nenum $a\n field $f I", 2, 2);
        lost("at the 20th place", "#sig 1\nenum " + NAME20.replace("t", "%$"), "#sig 2\nenum " + NAME20.replace('t', '$'), 1, 1);
        lost("20 places without one", "#sig 1\nenum " + NAME20, "#sig 2\nenum " + NAME20, 0, 0);
        lost("in one format", "#sig 1\nenum %$\n field %$ L%$;", "#sig 1\nenum %$\n field %$ L%$;", 0, 0);
    }

    private static void promise14AnotherBaseline() {
        sentence("REFUSED for another baseline.");
        for (int baseline : NO_BASELINES) {
            refused("lost(" + baseline + ")", x -> x.lost(baseline));
        }
    }

    private static void promise15Swap() {
        sentence("The two baselines are exchanged.");
        BaselineText x = busy();
        String before = stateOf(x);
        String first = baselineOf(x, 0);
        String second = baselineOf(x, 1);
        x.swap();
        due("0", baselineOf(x, 0), second);
        due("1", baselineOf(x, 1), first);
        due("all", stateOf(x), before.replace("0 " + first, "0 " + second).replace("1 " + second, "1 " + first));
        x.swap();
        due("twice", stateOf(x), before);
        BaselineText empty = new BaselineText();
        empty.swap();
        due("empty ones", stateOf(empty), stateOf(new BaselineText()));
        BaselineText full = full();
        due("lost before", full.lost(1) * 100 + full.lost(0), 2000);
        full.swap();
        due("lost behind", full.lost(0) * 100 + full.lost(1), 2000);
        due("types behind", full.types(0) * 100 + full.types(1), 1200);
        due("read into the one that is 1 now", full.read(1), 1);
        due("the same then", full.differ(), 0);
    }

    private static void unchanged(String what, Consumer<BaselineText> call) {
        BaselineText x = busy();
        String before = stateOf(x);
        call.accept(x);
        due("the state behind " + what, stateOf(x), before);
    }

    private static void asksChangeNothing() {
        sentence("Nothing is promised beyond the answers and state changes described");
        unchanged("text", x -> x.text(0));
        unchanged("diagnostic", x -> x.diagnostic(0, 0));
        unchanged("types", x -> x.types(1));
        unchanged("about", x -> x.about(0, 0, 2));
        unchanged("member", x -> x.member(0, 0, 0, 2));
        unchanged("character", x -> x.character(0, 0, 0, -1, 0));
        unchanged("differ", x -> x.differ());
        unchanged("lost", x -> x.lost(0));
    }
}
