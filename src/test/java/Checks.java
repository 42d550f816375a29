import java.util.function.IntPredicate;

/** What the tests extend: it counts the answers that are not as due, types texts and tells states. */
abstract class Checks {
    static final int REFUSED = BaselineText.REFUSED;
    static final String TOP = "#sig 2\n";
    static final String TOP1 = "#sig 1\n";
    static final String TWELVE = TOP + lines("enum #\n", "abcdefghijkl");
    static final String EIGHT = TOP + "enum a\n" + lines("  field # I\n", "abcdefgh");
    static final String[] TYPE_MARKS = {"public", "abstract", "final"};
    static final String[] MEMBER_MARKS = {"public", "protected", "static", "final", "abstract"};
    static final String[] TYPE_KINDS = {"class", "interface", "enum", "record"};
    static final String[] MEMBER_KINDS = {"field", "method"};

    private static int wrong;
    private static String sentence = "";

    /** What is checked from here on is due by these words of the document; a wrong answer is told with them. */
    static void sentence(String words) {
        sentence = "[" + words + "] ";
    }

    static void due(String what, long got, long want) {
        if (got != want) {
            wrong++;
            System.out.println(sentence + what + " answered " + got + ", due is " + want);
        }
    }

    static void due(String what, String got, String want) {
        if (!got.equals(want)) {
            wrong++;
            System.out.println(sentence + what + " is\n" + got + "\ndue is\n" + want);
        }
    }

    /** Reads a text on a new object: its diagnostics as diagnosticsOf() tells them, and the form as write() gives it. */
    static void reads(String text, String diagnostics, String form) {
        BaselineText x = typed(text);
        int answer = x.read(0);
        int told = diagnostics.isEmpty() ? 0 : diagnostics.split(" ").length;
        due("read of [" + text + "]", answer, told);
        due("diagnostics of [" + text + "]", diagnosticsOf(x), diagnostics);
        x.write(0);
        due("form of [" + text + "]", textOf(x), form);
    }

    /** Puts every character that a word can have in place of # and reads: it is to be taken just if it may stand there. */
    static void everyCode(String top, String line, int wrongNumber, IntPredicate may) {
        for (int code = 33; code <= 126; code++) {
            BaselineText x = typed(top + line.replace('#', (char) code));
            String what = line + " with " + (char) code;
            boolean taken = may.test(code);
            due(what, x.read(0), taken ? 0 : 1);
            due(what + ": number", x.diagnostic(0, 0), taken ? REFUSED : wrongNumber);
            int held = top.contains("enum") ? x.about(0, 0, 2) : x.types(0);
            due(what + ": taken", held, taken ? 1 : 0);
        }
    }

    /** What differ() answers for the two texts, after a look that it answers the same for them exchanged. */
    static int difference(String text0, String text1) {
        BaselineText x = pair(text0, text1);
        int found = x.differ();
        x.swap();
        due("differ the other way round", x.differ(), found);
        return found;
    }

    static void end() {
        if (wrong != 0) {
            System.out.println(wrong + " answers are not as due");
            System.exit(1);
        }
    }

    /** The pattern once for each character, which stands in it for #. */
    static String lines(String pattern, String characters) {
        StringBuilder all = new StringBuilder();
        for (char c : characters.toCharArray()) {
            all.append(pattern.replace('#', c));
        }
        return all.toString();
    }

    static boolean isLetter(int code) {
        return (code >= 'a' && code <= 'z') || (code >= 'A' && code <= 'Z') || code == '$' || code == '_';
    }

    static boolean isLetterOrDigit(int code) {
        return isLetter(code) || (code >= '0' && code <= '9');
    }

    /** A new object whose text is this one. */
    static BaselineText typed(String text) {
        BaselineText x = new BaselineText();
        retype(x, text);
        return x;
    }

    /** A new object with the two texts read as baselines 0 and 1; the second one stays its text. */
    static BaselineText pair(String text0, String text1) {
        BaselineText x = typed(text0);
        x.read(0);
        retype(x, text1);
        x.read(1);
        return x;
    }

    /** Types a text in place of the one before, eight characters a call, and answers the last call's answer. */
    static int retype(BaselineText x, String text) {
        x.clear();
        int answer = 0;
        for (int start = 0; start < text.length(); start += 8) {
            int n = Math.min(8, text.length() - start);
            answer = x.type(packed(text.substring(start, start + n)), n);
        }
        return answer;
    }

    static long packed(String characters) {
        long value = 0;
        for (char c : characters.toCharArray()) {
            value = value << 8 | c;
        }
        return value;
    }

    static String textOf(BaselineText x) {
        StringBuilder all = new StringBuilder();
        for (int code = x.text(0); code != -1; code = x.text(all.length())) {
            all.append((char) code);
        }
        return all.toString();
    }

    /** The kept diagnostics as "number@line:place", parted by blanks. */
    static String diagnosticsOf(BaselineText x) {
        StringBuilder all = new StringBuilder();
        for (int i = 0; x.diagnostic(i, 0) != REFUSED; i++) {
            all.append(i == 0 ? "" : " ").append(x.diagnostic(i, 0)).append('@')
                    .append(x.diagnostic(i, 1)).append(':').append(x.diagnostic(i, 2));
        }
        return all.toString();
    }

    /** A name or descriptor as character() tells it. */
    static String nameOf(BaselineText x, int baseline, int t, int m, int which) {
        StringBuilder all = new StringBuilder();
        for (int code = x.character(baseline, t, m, which, 0); code != -1; code = x.character(baseline, t, m, which, all.length())) {
            all.append((char) code);
        }
        return all.toString();
    }

    /** All that the calls tell of a baseline, as "format{kind marks name(kind marks name descriptor)}". */
    static String baselineOf(BaselineText x, int baseline) {
        int format = x.format(baseline, 2);
        x.format(baseline, format);
        StringBuilder all = new StringBuilder().append(format);
        for (int t = 0; t < x.types(baseline); t++) {
            all.append('{').append(x.about(baseline, t, 0)).append(' ').append(x.about(baseline, t, 1)).append(' ')
                    .append(nameOf(x, baseline, t, 0, -1));
            for (int m = 0; m < x.about(baseline, t, 2); m++) {
                all.append('(').append(x.member(baseline, t, m, 0)).append(' ').append(x.member(baseline, t, m, 1)).append(' ')
                        .append(nameOf(x, baseline, t, m, 0)).append(' ').append(nameOf(x, baseline, t, m, 1)).append(')');
            }
            all.append('}');
        }
        return all.toString();
    }

    /** All that the calls tell of an object, which they leave as it is. */
    static String stateOf(BaselineText x) {
        return "text " + textOf(x) + "\ndiagnostics " + diagnosticsOf(x) + "\n0 " + baselineOf(x, 0) + "\n1 " + baselineOf(x, 1);
    }
}
