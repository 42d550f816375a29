import java.util.ArrayList;

/** Two baselines of types and members, and a text that they are written to and read from. */
public final class BaselineText {
    public static final int REFUSED = -1;

    private static final int MOST_TEXT = 480;
    private static final int LONGEST_NAME = 20;
    private static final int MOST_TYPES = 12;
    private static final int MOST_MEMBERS = 8;
    private static final int MOST_DIAGNOSTICS = 20;
    private static final int MOST_BYTES = 8;

    private static final int ESCAPING_FORMAT = 1;
    private static final int PLAIN_FORMAT = 2;

    private static final int METHOD = 1;

    private static final int FINE = 0;
    private static final int NO_FORMAT = 1;
    private static final int REPEATED_MARK = 2;
    private static final int NO_KIND = 3;
    private static final int NO_NAME = 4;
    private static final int NO_DESCRIPTOR = 5;
    private static final int TOO_MANY_WORDS = 6;
    private static final int ALIKE = 7;
    private static final int TOO_MANY = 8;
    private static final int NO_TYPE = 9;

    private static final int NONE = -1;
    private static final char LINE_FEED = 10;
    private static final char BLANK = ' ';
    private static final char ESCAPE = '%';
    private static final char DOLLAR = '$';

    private final Row text = new Row(MOST_TEXT);
    private final Row form = new Row(MOST_TEXT);
    private final Diagnostics diagnostics = new Diagnostics();
    private Baseline baseline0 = new Baseline();
    private Baseline baseline1 = new Baseline();

    public BaselineText() {
    }

    public int type(long value, int n) {
        if (n < 1 || n > MOST_BYTES || text.length() + n > MOST_TEXT) {
            return REFUSED;
        }
        for (int i = 0; i < n; i++) {
            if (!isTextCode(byteOf(value, i))) {
                return REFUSED;
            }
        }
        for (int i = n - 1; i >= 0; i--) {
            text.add(byteOf(value, i));
        }
        return text.length();
    }

    public int clear() {
        int had = text.length();
        text.empty();
        return had;
    }

    public int read(int baseline) {
        Baseline target = chosen(baseline);
        if (target == null) {
            return REFUSED;
        }
        target.empty();
        diagnostics.empty();
        Reader reader = new Reader(text, target, diagnostics);
        int start = 0;
        for (int i = 0; i <= text.length(); i++) {
            if (i == text.length() || text.at(i) == LINE_FEED) {
                reader.readLine(start, i);
                start = i + 1;
            }
        }
        return diagnostics.count();
    }

    public int write(int baseline) {
        Baseline source = chosen(baseline);
        if (source == null) {
            return REFUSED;
        }
        // Not straight into the text, which has to stay if the form turns out too long.
        form.empty();
        source.addForm(form);
        if (!form.fits()) {
            return REFUSED;
        }
        text.copy(form);
        return text.length();
    }

    public int format(int baseline, int format) {
        Baseline changed = chosen(baseline);
        if (changed == null || (format != ESCAPING_FORMAT && format != PLAIN_FORMAT)) {
            return REFUSED;
        }
        int before = changed.format;
        changed.format = format;
        return before;
    }

    public int text(int index) {
        return text.at(index);
    }

    public int diagnostic(int index, int what) {
        if (index < 0 || index >= diagnostics.kept()) {
            return REFUSED;
        }
        switch (what) {
            case 0:
                return diagnostics.numbers[index];
            case 1:
                return diagnostics.lines[index];
            case 2:
                return diagnostics.places[index];
            default:
                return REFUSED;
        }
    }

    public int types(int baseline) {
        Baseline asked = chosen(baseline);
        return asked == null ? REFUSED : asked.types.count();
    }

    public int about(int baseline, int t, int what) {
        Type found = typeAt(baseline, t);
        if (found == null) {
            return REFUSED;
        }
        switch (what) {
            case 0:
                return found.kind;
            case 1:
                return found.marks;
            case 2:
                return found.members.count();
            case 3:
                return found.name.length();
            default:
                return REFUSED;
        }
    }

    public int member(int baseline, int t, int m, int what) {
        Declaration found = memberAt(baseline, t, m);
        if (found == null) {
            return REFUSED;
        }
        switch (what) {
            case 0:
                return found.kind;
            case 1:
                return found.marks;
            case 2:
                return found.name.length();
            case 3:
                return found.descriptor.length();
            default:
                return REFUSED;
        }
    }

    public int character(int baseline, int t, int m, int which, int index) {
        Declaration found = which == -1 ? typeAt(baseline, t) : memberAt(baseline, t, m);
        if (found == null) {
            return NONE;
        }
        switch (which) {
            case -1:
            case 0:
                return found.name.at(index);
            case 1:
                return found.descriptor.at(index);
            default:
                return NONE;
        }
    }

    public int differ() {
        return baseline0.firstDifference(baseline1);
    }

    public int lost(int baseline) {
        switch (baseline) {
            case 0:
                return baseline0.linesMissingIn(baseline1);
            case 1:
                return baseline1.linesMissingIn(baseline0);
            default:
                return REFUSED;
        }
    }

    public void swap() {
        Baseline before = baseline0;
        baseline0 = baseline1;
        baseline1 = before;
    }

    private static int byteOf(long value, int place) {
        return (int) (value >>> (8 * place)) & 255;
    }

    private static boolean isTextCode(int code) {
        return code == LINE_FEED || (code >= 32 && code <= 126);
    }

    private Baseline chosen(int baseline) {
        switch (baseline) {
            case 0:
                return baseline0;
            case 1:
                return baseline1;
            default:
                return null;
        }
    }

    private Type typeAt(int baseline, int t) {
        Baseline asked = chosen(baseline);
        return asked == null ? null : asked.types.get(t);
    }

    private Declaration memberAt(int baseline, int t, int m) {
        Type owner = typeAt(baseline, t);
        return owner == null ? null : owner.members.get(m);
    }

    /** Characters in a fixed room; what has no room is dropped, and fits() then says so. */
    private static final class Row {
        private final char[] letters;
        private int length;
        private boolean overflowed;

        Row(int room) {
            letters = new char[room];
        }

        int length() {
            return length;
        }

        boolean fits() {
            return !overflowed;
        }

        int at(int index) {
            return index >= 0 && index < length ? letters[index] : NONE;
        }

        void empty() {
            length = 0;
            overflowed = false;
        }

        void add(int code) {
            if (length < letters.length) {
                letters[length] = (char) code;
                length++;
            } else {
                overflowed = true;
            }
        }

        void addWord(String word) {
            for (int i = 0; i < word.length(); i++) {
                add(word.charAt(i));
            }
        }

        void addName(Row name, int format) {
            for (int i = 0; i < name.length; i++) {
                if (format == ESCAPING_FORMAT && name.letters[i] == DOLLAR) {
                    add(ESCAPE);
                }
                add(name.letters[i]);
            }
        }

        void copy(Row other) {
            empty();
            for (int i = 0; i < other.length; i++) {
                add(other.letters[i]);
            }
        }

        boolean contains(char code) {
            for (int i = 0; i < length; i++) {
                if (letters[i] == code) {
                    return true;
                }
            }
            return false;
        }

        boolean isWord(String word) {
            if (length != word.length()) {
                return false;
            }
            for (int i = 0; i < length; i++) {
                if (letters[i] != word.charAt(i)) {
                    return false;
                }
            }
            return true;
        }

        int compare(Row other) {
            for (int i = 0; i < length && i < other.length; i++) {
                if (letters[i] != other.letters[i]) {
                    return letters[i] - other.letters[i];
                }
            }
            return length - other.length;
        }
    }

    /** What a type's or a member's line tells; the descriptor of a type is empty. */
    private static class Declaration {
        final Row name = new Row(LONGEST_NAME);
        final Row descriptor = new Row(LONGEST_NAME);
        int kind;
        int marks;

        final void copy(Declaration other) {
            name.copy(other.name);
            descriptor.copy(other.descriptor);
            kind = other.kind;
            marks = other.marks;
        }

        final int compare(Declaration other) {
            int order = name.compare(other.name);
            if (order == 0) {
                order = kind - other.kind;
            }
            return order == 0 ? descriptor.compare(other.descriptor) : order;
        }

        final boolean isSame(Declaration other) {
            return marks == other.marks && compare(other) == 0;
        }

        /** Whether the two formats write this declaration alike. */
        final boolean isFormatFree() {
            return !name.contains(DOLLAR) && !descriptor.contains(DOLLAR);
        }

        final void addLine(Row out, boolean ofMember, int format) {
            if (ofMember) {
                out.addWord("  ");
            }
            for (int i = 0; i < Vocabulary.marks(ofMember); i++) {
                if ((marks >> i & 1) == 1) {
                    out.addWord(Vocabulary.mark(ofMember, i));
                    out.add(BLANK);
                }
            }
            out.addWord(Vocabulary.kind(ofMember, kind));
            out.add(BLANK);
            out.addName(name, format);
            if (ofMember) {
                out.add(BLANK);
                out.addName(descriptor, format);
            }
            out.add(LINE_FEED);
        }
    }

    private static final class Type extends Declaration {
        final Shelf<Declaration> members = new Shelf<>(MOST_MEMBERS);

        void addMember(Declaration draft) {
            Declaration spare = members.takeSpare();
            Declaration added = spare == null ? new Declaration() : spare;
            added.copy(draft);
            members.put(added);
        }
    }

    /** Declarations in canonical order. Those no longer in use stand behind the count, to be used again. */
    private static final class Shelf<D extends Declaration> {
        private final ArrayList<D> declarations = new ArrayList<>();
        private final int most;
        private int count;

        Shelf(int most) {
            this.most = most;
        }

        int count() {
            return count;
        }

        boolean isFull() {
            return count >= most;
        }

        void empty() {
            count = 0;
        }

        D get(int index) {
            return index >= 0 && index < count && index < declarations.size() ? declarations.get(index) : null;
        }

        /** Takes an unused one off the shelf, if there is one. */
        D takeSpare() {
            return count < declarations.size() ? declarations.remove(count) : null;
        }

        void put(D added) {
            int place = 0;
            for (int i = 0; i < count; i++) {
                D other = get(i);
                if (other != null && other.compare(added) < 0) {
                    place = i + 1;
                }
            }
            declarations.add(place, added);
            count++;
        }

        D alike(Declaration sought) {
            for (int i = 0; i < count; i++) {
                D other = get(i);
                if (other != null && other.compare(sought) == 0) {
                    return other;
                }
            }
            return null;
        }
    }

    private static final class Baseline {
        final Shelf<Type> types = new Shelf<>(MOST_TYPES);
        int format = PLAIN_FORMAT;

        void empty() {
            types.empty();
            format = PLAIN_FORMAT;
        }

        Type named(Row name) {
            for (int t = 0; t < types.count(); t++) {
                Type type = types.get(t);
                if (type != null && type.name.compare(name) == 0) {
                    return type;
                }
            }
            return null;
        }

        Type addType(Declaration draft) {
            Type spare = types.takeSpare();
            Type added = spare == null ? new Type() : spare;
            added.copy(draft);
            added.members.empty();
            types.put(added);
            return added;
        }

        void addForm(Row out) {
            out.addWord("#sig ");
            out.add('0' + format);
            out.add(LINE_FEED);
            for (int t = 0; t < types.count(); t++) {
                Type type = types.get(t);
                if (type != null) {
                    type.addLine(out, false, format);
                    addMemberLines(out, type.members);
                }
            }
        }

        private void addMemberLines(Row out, Shelf<Declaration> members) {
            for (int m = 0; m < members.count(); m++) {
                Declaration member = members.get(m);
                if (member != null) {
                    member.addLine(out, true, format);
                }
            }
        }

        /** Compares what the lines tell, since lines of one format are the same just if they tell the same. */
        int firstDifference(Baseline other) {
            if (format != other.format) {
                return 1;
            }
            int line = 2;
            for (int t = 0; t < MOST_TYPES; t++) {
                Type mine = types.get(t);
                Type theirs = other.types.get(t);
                if (mine == null && theirs == null) {
                    return 0;
                }
                if (mine == null || theirs == null || !mine.isSame(theirs)) {
                    return line;
                }
                int same = sameMembers(mine.members, theirs.members);
                line += 1 + same;
                if (same < Math.max(mine.members.count(), theirs.members.count())) {
                    return line;
                }
            }
            return 0;
        }

        private static int sameMembers(Shelf<Declaration> mine, Shelf<Declaration> theirs) {
            int shared = Math.min(mine.count(), theirs.count());
            for (int m = 0; m < shared; m++) {
                Declaration one = mine.get(m);
                Declaration two = theirs.get(m);
                if (one == null || two == null || !one.isSame(two)) {
                    return m;
                }
            }
            return shared;
        }

        int linesMissingIn(Baseline other) {
            boolean sameFormat = format == other.format;
            int missing = 0;
            for (int t = 0; t < types.count(); t++) {
                Type mine = types.get(t);
                if (mine != null) {
                    Type theirs = other.named(mine.name);
                    missing += isSameLine(mine, theirs, sameFormat) ? 0 : 1;
                    missing += membersMissingIn(theirs, mine.members, sameFormat);
                }
            }
            return missing;
        }

        private static int membersMissingIn(Type owner, Shelf<Declaration> members, boolean sameFormat) {
            if (owner == null) {
                return members.count();
            }
            int missing = 0;
            for (int m = 0; m < members.count(); m++) {
                Declaration mine = members.get(m);
                if (mine != null && !isSameLine(mine, owner.members.alike(mine), sameFormat)) {
                    missing++;
                }
            }
            return missing;
        }

        private static boolean isSameLine(Declaration mine, Declaration theirs, boolean sameFormat) {
            return theirs != null && mine.isSame(theirs) && (sameFormat || mine.isFormatFree());
        }
    }

    private static final class Diagnostics {
        final int[] numbers = new int[MOST_DIAGNOSTICS];
        final int[] lines = new int[MOST_DIAGNOSTICS];
        final int[] places = new int[MOST_DIAGNOSTICS];
        private int count;

        int count() {
            return count;
        }

        int kept() {
            return Math.min(count, MOST_DIAGNOSTICS);
        }

        void empty() {
            count = 0;
        }

        void add(int number, int line, int place) {
            if (count < MOST_DIAGNOSTICS) {
                numbers[count] = number;
                lines[count] = line;
                places[count] = place;
            }
            count++;
        }
    }

    /** One line of the text, without blanks at its end, and the word of it that is looked at. */
    private static final class Line {
        private final Row text;
        private int start;
        private int end;
        private int wordStart;
        private int wordEnd;

        Line(Row text) {
            this.text = text;
        }

        void frame(int from, int to) {
            start = from;
            end = to;
            while (end > start && text.at(end - 1) == BLANK) {
                end--;
            }
            toFirstWord();
        }

        void toFirstWord() {
            wordEnd = start;
            toNextWord();
        }

        /** Behind the last word stands an empty one: its place is that of a word that lacks. */
        void toNextWord() {
            wordStart = wordEnd;
            while (wordStart < end && text.at(wordStart) == BLANK) {
                wordStart++;
            }
            wordEnd = wordStart;
            while (wordEnd < end && text.at(wordEnd) != BLANK) {
                wordEnd++;
            }
        }

        boolean hasWord() {
            return wordStart < wordEnd;
        }

        int place() {
            return wordStart - start + 1;
        }

        /** Only while the line stands at its first word. */
        boolean isSkipped() {
            return !hasWord() || text.at(wordStart) == '!';
        }

        boolean isAt(String word) {
            if (wordEnd - wordStart != word.length()) {
                return false;
            }
            for (int i = 0; i < word.length(); i++) {
                if (text.at(wordStart + i) != word.charAt(i)) {
                    return false;
                }
            }
            return true;
        }

        /** A dollar that lacks its escape becomes one, since neither can stand in a name. */
        void copyName(Row out, int format) {
            boolean escaping = format == ESCAPING_FORMAT;
            out.empty();
            for (int i = wordStart; i < wordEnd; i++) {
                int code = text.at(i);
                boolean opensPair = escaping && code == ESCAPE && text.at(i + 1) == DOLLAR;
                boolean lacksEscape = escaping && code == DOLLAR && text.at(i - 1) != ESCAPE;
                if (!opensPair) {
                    out.add(lacksEscape ? ESCAPE : code);
                }
            }
        }
    }

    /** Reads the lines of a text into a baseline, once. */
    private static final class Reader {
        private final Line line;
        private final Baseline target;
        private final Diagnostics diagnostics;
        private final Declaration draft = new Declaration();
        private int number;
        private boolean pastFirst;
        private boolean broken;
        private Type owner;

        Reader(Row text, Baseline target, Diagnostics diagnostics) {
            this.line = new Line(text);
            this.target = target;
            this.diagnostics = diagnostics;
        }

        void readLine(int from, int to) {
            number++;
            line.frame(from, to);
            if (line.isSkipped() || readFirst()) {
                return;
            }
            boolean ofMember = line.place() > 1;
            if (ofMember && broken) {
                return;
            }
            int fault = readWords(ofMember);
            if (fault == FINE) {
                line.toFirstWord();
                fault = ofMember ? takeMember() : takeType();
            }
            if (fault != FINE) {
                diagnostics.add(fault, number, line.place());
            }
            if (!ofMember) {
                broken = fault != FINE;
            }
        }

        /** Whether this is the first line and all read; if it tells no format, it is left to be read as any other. */
        private boolean readFirst() {
            if (pastFirst) {
                return false;
            }
            pastFirst = true;
            if (readFormat()) {
                return true;
            }
            line.toFirstWord();
            diagnostics.add(NO_FORMAT, number, line.place());
            return false;
        }

        private boolean readFormat() {
            if (!line.isAt("#sig")) {
                return false;
            }
            line.toNextWord();
            int format = line.isAt("1") ? ESCAPING_FORMAT : line.isAt("2") ? PLAIN_FORMAT : NONE;
            line.toNextWord();
            if (format == NONE || line.hasWord()) {
                return false;
            }
            target.format = format;
            return true;
        }

        /** Fills the draft; answers the diagnostic of the word that the line then stands at, or FINE. */
        private int readWords(boolean ofMember) {
            if (!readMarks(ofMember)) {
                return REPEATED_MARK;
            }
            draft.kind = kindHere(ofMember);
            if (draft.kind == NONE) {
                return NO_KIND;
            }
            line.toNextWord();
            line.copyName(draft.name, target.format);
            if (!Grammar.isName(draft.name, ofMember, draft.kind)) {
                return NO_NAME;
            }
            line.toNextWord();
            draft.descriptor.empty();
            if (ofMember) {
                line.copyName(draft.descriptor, target.format);
                boolean right = draft.kind == METHOD
                        ? Grammar.isMethodDescriptor(draft.descriptor)
                        : Grammar.isFieldDescriptor(draft.descriptor);
                if (!right) {
                    return NO_DESCRIPTOR;
                }
                line.toNextWord();
            }
            return line.hasWord() ? TOO_MANY_WORDS : FINE;
        }

        private boolean readMarks(boolean ofMember) {
            draft.marks = 0;
            // Once more than there are marks: the last round meets another word or a repeated mark.
            for (int i = 0; i <= Vocabulary.marks(ofMember); i++) {
                int mark = markHere(ofMember);
                if (mark == 0) {
                    return true;
                }
                if ((draft.marks & mark) != 0) {
                    return false;
                }
                draft.marks |= mark;
                line.toNextWord();
            }
            return true;
        }

        private int markHere(boolean ofMember) {
            for (int i = 0; i < Vocabulary.marks(ofMember); i++) {
                if (line.isAt(Vocabulary.mark(ofMember, i))) {
                    return 1 << i;
                }
            }
            return 0;
        }

        private int kindHere(boolean ofMember) {
            for (int i = 0; i < Vocabulary.kinds(ofMember); i++) {
                if (line.isAt(Vocabulary.kind(ofMember, i))) {
                    return i;
                }
            }
            return NONE;
        }

        private int takeType() {
            if (target.named(draft.name) != null) {
                return ALIKE;
            }
            if (target.types.isFull()) {
                return TOO_MANY;
            }
            owner = target.addType(draft);
            return FINE;
        }

        private int takeMember() {
            if (owner == null) {
                return NO_TYPE;
            }
            if (owner.members.alike(draft) != null) {
                return ALIKE;
            }
            if (owner.members.isFull()) {
                return TOO_MANY;
            }
            owner.addMember(draft);
            return FINE;
        }
    }

    /** The words of marks and kinds, each at the place of its bit or number. */
    private static final class Vocabulary {
        static int marks(boolean ofMember) {
            return ofMember ? 5 : 3;
        }

        static int kinds(boolean ofMember) {
            return ofMember ? 2 : 4;
        }

        static String mark(boolean ofMember, int bit) {
            return ofMember ? memberMark(bit) : typeMark(bit);
        }

        static String kind(boolean ofMember, int kind) {
            return ofMember ? memberKind(kind) : typeKind(kind);
        }

        private static String typeMark(int bit) {
            switch (bit) {
                case 0:
                    return "public";
                case 1:
                    return "abstract";
                default:
                    return "final";
            }
        }

        private static String memberMark(int bit) {
            switch (bit) {
                case 0:
                    return "public";
                case 1:
                    return "protected";
                case 2:
                    return "static";
                case 3:
                    return "final";
                default:
                    return "abstract";
            }
        }

        private static String typeKind(int kind) {
            switch (kind) {
                case 0:
                    return "class";
                case 1:
                    return "interface";
                case 2:
                    return "enum";
                default:
                    return "record";
            }
        }

        private static String memberKind(int kind) {
            return kind == METHOD ? "method" : "field";
        }
    }

    /** What names and descriptors may look like. */
    private static final class Grammar {
        private static final char NO_SEPARATOR = 0;

        static boolean isName(Row word, boolean ofMember, int kind) {
            if (ofMember && kind == METHOD && word.isWord("<init>")) {
                return true;
            }
            char separator = ofMember ? NO_SEPARATOR : '.';
            return word.fits() && nameEnd(word, 0, separator) == word.length();
        }

        static boolean isFieldDescriptor(Row word) {
            return word.fits() && fieldEnd(word, 0) == word.length();
        }

        static boolean isMethodDescriptor(Row word) {
            if (!word.fits() || word.at(0) != '(') {
                return false;
            }
            int at = 1;
            for (int i = 0; i < LONGEST_NAME && at != NONE && word.at(at) != ')'; i++) {
                at = fieldEnd(word, at);
            }
            if (word.at(at) != ')') {
                return false;
            }
            int end = word.at(at + 1) == 'V' ? at + 2 : fieldEnd(word, at + 1);
            return end == word.length();
        }

        private static int fieldEnd(Row word, int from) {
            int at = from;
            while (at < word.length() && word.at(at) == '[') {
                at++;
            }
            if (isBase(word.at(at))) {
                return at + 1;
            }
            if (word.at(at) != 'L') {
                return NONE;
            }
            int end = nameEnd(word, at + 1, '/');
            return word.at(end) == ';' ? end + 1 : NONE;
        }

        /** The end of the longest run of parts from there on, or NONE if it breaks off where a part should begin. */
        private static int nameEnd(Row word, int from, char separator) {
            boolean partBegins = true;
            int at = from;
            while (at < word.length()) {
                int code = word.at(at);
                if (isLetter(code) || (!partBegins && isDigit(code))) {
                    partBegins = false;
                } else if (!partBegins && code == separator) {
                    partBegins = true;
                } else {
                    break;
                }
                at++;
            }
            return partBegins ? NONE : at;
        }

        private static boolean isLetter(int code) {
            return (code >= 'a' && code <= 'z') || (code >= 'A' && code <= 'Z') || code == DOLLAR || code == '_';
        }

        private static boolean isDigit(int code) {
            return code >= '0' && code <= '9';
        }

        private static boolean isBase(int code) {
            switch (code) {
                case 'B':
                case 'C':
                case 'D':
                case 'F':
                case 'I':
                case 'J':
                case 'S':
                case 'Z':
                    return true;
                default:
                    return false;
            }
        }
    }
}
