/** Long runs of calls on objects and on models of them, with texts that are nearly right. */
public final class ModelTest extends Checks {
    private static final int RUNS = 1000;
    private static final String[] FIRST = {"#sig 1", "#sig 2", "#sig 2 ", " #sig 1", "#sig 3", "#sig", "#sig 1 2", "", "! x", "class A"};
    private static final String[] TYPE_WORDS = {"public", "abstract", "final", "class", "interface", "enum", "record", "static", "field"};
    private static final String[] MEMBER_WORDS = {"public", "protected", "static", "final", "abstract", "field", "method", "class", "record"};
    private static final String[] TYPE_NAMES = {"a", "b", "c", "d", "e", "A", "a.b", "a$", "a%$", "$", "%$", "_", "aa", "a.b$c", "9", "a..b", "a.", "%%$",
        "aaaaaaaaaabbbbbbbbbb", "aaaaaaaaaabbbbbbbbbbc", "%$aaaaaaaaabbbbbbbbbb", "public", "class", "f", "g", "h", "i", "j", "k", "l"};
    private static final String[] MEMBER_NAMES = {"f", "g", "h", "i", "f1", "f$", "f%$", "$", "%$", "<init>", "a.b", "1", "field", "j", "k", "l"};
    private static final String[] DESCRIPTORS = {"I", "J", "[I", "La;", "La/b;", "La$;", "La%$;", "V", "II", "()V", "()I", "(I)V", "(La;[J)La;", "(L%$;)V",
        "(V)V", "(I", "()", "[", "L;", "[La/b;", "(IIIIIIIIIIIIIIIII)V", "(IIIIIIIIIIIIIIIIII)V", "[[[[[[[[[[[[[[[[[[[I", "[[[[[[[[[[[[[[[[[[[[I"};

    private static long seed = 20261115L;

    public static void main(String[] args) {
        for (int run = 0; run < RUNS; run++) {
            BaselineText x = new BaselineText();
            Model model = new Model();
            int rounds = 1 + below(6);
            for (int round = 0; round < rounds; round++) {
                typeBoth(x, model, below(8) == 0 ? compactText() : randomText());
                step(run, x, model);
            }
        }
        end();
    }

    private static int below(int bound) {
        seed = seed * 6364136223846793005L + 1442695040888963407L;
        return (int) ((seed >>> 33) % bound);
    }

    private static String any(String[] words) {
        return words[below(words.length)];
    }

    private static void typeBoth(BaselineText x, Model model, String text) {
        if (below(10) != 0) {
            due("clear", x.clear(), model.clear());
        }
        for (int start = 0; start < text.length();) {
            int n = 1 + below(8);
            String part = text.substring(start, Math.min(text.length(), start + n));
            long value = packed(part);
            due("type " + part, x.type(value, part.length()), model.type(value, part.length()));
            start += n;
        }
    }

    private static void step(int run, BaselineText x, Model model) {
        int baseline = below(2);
        String before = textOf(x);
        due(run + ": read " + before, x.read(baseline), model.read(baseline));
        compareAll(run, x, model, before);
        if (below(3) == 0) {
            int format = 1 + below(2);
            due(run + ": format", x.format(baseline, format), model.format(baseline, format));
        }
        if (below(3) == 0) {
            x.swap();
            model.swap();
        }
        int written = below(2);
        due(run + ": write", x.write(written), model.write(written));
        if (below(3) == 0) {
            due(run + ": read of what was written", x.read(1 - written), model.read(1 - written));
        }
        compareAll(run, x, model, before);
    }

    private static void compareAll(int run, BaselineText x, Model model, String of) {
        String at = run + ": of [" + of + "] ";
        due(at + "differ", x.differ(), model.differ());
        for (int i = -1; i < 482; i++) {
            due(at + "text " + i, x.text(i), model.text(i));
        }
        for (int i = -1; i < 21; i++) {
            for (int what = -1; what < 4; what++) {
                due(at + "diagnostic " + i + " " + what, x.diagnostic(i, what), model.diagnostic(i, what));
            }
        }
        for (int b = -1; b < 3; b++) {
            due(at + "lost " + b, x.lost(b), model.lost(b));
            due(at + "types " + b, x.types(b), model.types(b));
            for (int t = -1; t <= Math.max(0, model.types(b)); t++) {
                compareType(at, x, model, b, t);
            }
        }
    }

    private static void compareType(String at, BaselineText x, Model model, int b, int t) {
        for (int what = -1; what < 5; what++) {
            due(at + "about " + b + " " + t + " " + what, x.about(b, t, what), model.about(b, t, what));
        }
        for (int m = -1; m <= Math.max(0, model.about(b, t, 2)); m++) {
            for (int what = -1; what < 5; what++) {
                String call = "member " + b + " " + t + " " + m + " " + what;
                due(at + call, x.member(b, t, m, what), model.member(b, t, m, what));
            }
            for (int which = -2; which < 3; which++) {
                for (int i = -1; i < 22; i++) {
                    String call = "character " + b + " " + t + " " + m + " " + which + " " + i;
                    due(at + call, x.character(b, t, m, which, i), model.character(b, t, m, which, i));
                }
            }
        }
    }

    /** Lines of which most are right, and some wrong in one place. */
    private static String randomText() {
        StringBuilder all = new StringBuilder(any(FIRST)).append('\n');
        int lines = 2 + below(25);
        for (int i = 0; i < lines; i++) {
            all.append(randomLine());
            all.append(i + 1 < lines || below(2) == 0 ? "\n" : "");
        }
        if (below(6) == 0) {
            all.setCharAt(below(all.length()), (char) (32 + below(95)));
        }
        return all.toString();
    }

    private static String randomLine() {
        if (below(15) == 0) {
            return any(new String[] {"", "   ", "! c", "  !", "#sig 1", "x", " y"});
        }
        boolean ofMember = below(3) != 0;
        StringBuilder line = new StringBuilder(ofMember ? " ".repeat(1 + below(3)) : "");
        String[] words = ofMember ? MEMBER_WORDS : TYPE_WORDS;
        int marks = ofMember ? 5 : 3;
        for (int i = below(3); i > 0; i--) {
            line.append(words[below(marks)]).append(blanks());
        }
        int kinds = ofMember ? 2 : 4;
        int kind = below(20) == 0 ? below(words.length - marks) : below(kinds);
        line.append(words[marks + kind]).append(blanks());
        line.append(any(ofMember ? MEMBER_NAMES : TYPE_NAMES));
        if (ofMember && below(20) != 0) {
            line.append(blanks()).append(any(DESCRIPTORS));
        }
        if (below(25) == 0) {
            line.append(blanks()).append("z");
        }
        return below(40) == 0 ? line.substring(0, below(line.length() + 1)) : line.toString();
    }

    private static String blanks() {
        return " ".repeat(below(8) == 0 ? 2 : 1);
    }

    /** Short right lines, as many as there is room for: their form may be longer than a text can be. */
    private static String compactText() {
        StringBuilder all = new StringBuilder(below(2) == 0 ? "#sig 1\n" : "#sig 2\n");
        for (int i = 0; all.length() < 480; i++) {
            if (i % 9 == 0) {
                all.append("enum ").append((char) ('a' + below(26))).append('\n');
            } else {
                all.append(" field ").append((char) ('a' + below(26))).append(below(3) == 0 ? " J\n" : " I\n");
            }
        }
        return all.substring(0, below(2) == 0 ? 480 : 400 + below(80));
    }
}
