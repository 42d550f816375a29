/** Counts the answers that are not as due, and types texts for the tests. */
final class Checks {
    private int wrong;

    void due(String what, long got, long want) {
        if (got != want) {
            wrong++;
            System.out.println(what + " answered " + got + ", due is " + want);
        }
    }

    void due(String what, String got, String want) {
        if (!got.equals(want)) {
            wrong++;
            System.out.println(what + " is\n" + got + "\ndue is\n" + want);
        }
    }

    void end() {
        if (wrong != 0) {
            System.out.println(wrong + " answers are not as due");
            System.exit(1);
        }
    }

    /** A new object whose text is this one. */
    static BaselineText typed(String text) {
        BaselineText x = new BaselineText();
        retype(x, text);
        return x;
    }

    /** Types a text in place of the one before, eight characters a call, and answers the last call's answer. */
    static int retype(BaselineText x, String text) {
        x.clear();
        int answer = 0;
        for (int start = 0; start < text.length(); start += 8) {
            int n = Math.min(8, text.length() - start);
            answer = x.type(packed(text.substring(start, start + n)), n);
        }
        return answer;
    }

    static long packed(String characters) {
        long value = 0;
        for (char c : characters.toCharArray()) {
            value = value << 8 | c;
        }
        return value;
    }

    static String textOf(BaselineText x) {
        StringBuilder all = new StringBuilder();
        for (int i = 0; x.text(i) != -1; i++) {
            all.append((char) x.text(i));
        }
        return all.toString();
    }

    /** The kept diagnostics as "number@line:place", parted by blanks. */
    static String diagnosticsOf(BaselineText x) {
        StringBuilder all = new StringBuilder();
        for (int i = 0; x.diagnostic(i, 0) != BaselineText.REFUSED; i++) {
            all.append(i == 0 ? "" : " ").append(x.diagnostic(i, 0)).append('@')
                    .append(x.diagnostic(i, 1)).append(':').append(x.diagnostic(i, 2));
        }
        return all.toString();
    }

    /** A name or descriptor as character() tells it. */
    static String nameOf(BaselineText x, int baseline, int t, int m, int which) {
        StringBuilder all = new StringBuilder();
        for (int i = 0; x.character(baseline, t, m, which, i) != -1; i++) {
            all.append((char) x.character(baseline, t, m, which, i));
        }
        return all.toString();
    }
}
