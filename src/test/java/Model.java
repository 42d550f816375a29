import java.util.ArrayList;
import java.util.Collections;
import java.util.HashSet;
import java.util.List;
import java.util.Set;
import java.util.TreeMap;
import java.util.regex.Pattern;

/** The document told a second time, by means of the library and of the written lines, to be compared with the program. */
final class Model {
    private static final List<String> TYPE_MARKS = List.of("public", "abstract", "final");
    private static final List<String> MEMBER_MARKS = List.of("public", "protected", "static", "final", "abstract");
    private static final List<String> TYPE_KINDS = List.of("class", "interface", "enum", "record");
    private static final List<String> MEMBER_KINDS = List.of("field", "method");
    private static final String PART = "[A-Za-z$_][A-Za-z$_0-9]*";
    private static final String FIELD = "\\[*([BCDFIJSZ]|L" + PART + "(/" + PART + ")*;)";
    private static final Pattern TYPE_NAME = Pattern.compile(PART + "(\\." + PART + ")*");
    private static final Pattern FIELD_NAME = Pattern.compile(PART);
    private static final Pattern METHOD_NAME = Pattern.compile(PART + "|<init>");
    private static final Pattern FIELD_DESCRIPTOR = Pattern.compile(FIELD);
    private static final Pattern METHOD_DESCRIPTOR = Pattern.compile("\\((" + FIELD + ")*\\)(V|" + FIELD + ")");

    /** A type or a member: a type's descriptor is empty, and only a type has members. */
    static final class Item {
        String name = "";
        String descriptor = "";
        int kind;
        int marks;
        final TreeMap<String, Item> members = new TreeMap<>();

        /** The codes of the parting character and of the kind are below all that stands in names. */
        String key() {
            return name + "\0" + kind + "\0" + descriptor;
        }
    }

    static final class Version {
        int format = 2;
        final TreeMap<String, Item> types = new TreeMap<>();

        Item type(int t) {
            return at(new ArrayList<>(types.values()), t);
        }

        Item member(int t, int m) {
            Item owner = type(t);
            return owner == null ? null : at(new ArrayList<>(owner.members.values()), m);
        }

        private static Item at(List<Item> items, int index) {
            return index < 0 || index >= items.size() ? null : items.get(index);
        }

        /** Each line of the form with, behind a tab, the name of the type that a member's line belongs to. */
        List<String> ownedLines() {
            List<String> all = new ArrayList<>();
            all.add("#sig " + format);
            for (Item type : types.values()) {
                all.add(line(type, TYPE_MARKS, TYPE_KINDS, ""));
                for (Item member : type.members.values()) {
                    all.add(line(member, MEMBER_MARKS, MEMBER_KINDS, "  ") + "\t" + type.name);
                }
            }
            return all;
        }

        List<String> lines() {
            List<String> all = new ArrayList<>();
            for (String line : ownedLines()) {
                all.add(line.replaceAll("\t.*", ""));
            }
            return all;
        }

        private String line(Item item, List<String> marks, List<String> kinds, String indent) {
            List<String> words = new ArrayList<>();
            for (int i = 0; i < marks.size(); i++) {
                if ((item.marks & (1 << i)) != 0) {
                    words.add(marks.get(i));
                }
            }
            words.add(kinds.get(item.kind));
            words.add(escaped(item.name));
            if (!item.descriptor.isEmpty()) {
                words.add(escaped(item.descriptor));
            }
            return indent + String.join(" ", words);
        }

        private String escaped(String name) {
            return format == 1 ? name.replace("$", "%$") : name;
        }
    }

    private String text = "";
    private List<int[]> diagnostics = new ArrayList<>();
    private final Version[] versions = {new Version(), new Version()};

    int type(long value, int n) {
        if (n < 1 || n > 8 || text.length() + n > 480) {
            return -1;
        }
        StringBuilder added = new StringBuilder();
        for (int i = n - 1; i >= 0; i--) {
            added.append((char) (value >> (8 * i) & 0xFF));
        }
        if (!added.toString().matches("[\n -~]*")) {
            return -1;
        }
        text += added;
        return text.length();
    }

    int clear() {
        int had = text.length();
        text = "";
        return had;
    }

    int write(int baseline) {
        if (baseline != 0 && baseline != 1) {
            return -1;
        }
        String form = String.join("\n", versions[baseline].lines()) + "\n";
        if (form.length() > 480) {
            return -1;
        }
        text = form;
        return form.length();
    }

    int format(int baseline, int format) {
        if (baseline < 0 || baseline > 1 || format < 1 || format > 2) {
            return -1;
        }
        int before = versions[baseline].format;
        versions[baseline].format = format;
        return before;
    }

    int text(int index) {
        return index < 0 || index >= text.length() ? -1 : text.charAt(index);
    }

    int diagnostic(int index, int what) {
        boolean none = index < 0 || index >= Math.min(20, diagnostics.size()) || what < 0 || what > 2;
        return none ? -1 : diagnostics.get(index)[what];
    }

    int types(int baseline) {
        return baseline < 0 || baseline > 1 ? -1 : versions[baseline].types.size();
    }

    int about(int baseline, int t, int what) {
        Item found = baseline < 0 || baseline > 1 ? null : versions[baseline].type(t);
        if (found == null || what < 0 || what > 3) {
            return -1;
        }
        return new int[] {found.kind, found.marks, found.members.size(), found.name.length()}[what];
    }

    int member(int baseline, int t, int m, int what) {
        Item found = baseline < 0 || baseline > 1 ? null : versions[baseline].member(t, m);
        if (found == null || what < 0 || what > 3) {
            return -1;
        }
        return new int[] {found.kind, found.marks, found.name.length(), found.descriptor.length()}[what];
    }

    int character(int baseline, int t, int m, int which, int index) {
        if (baseline < 0 || baseline > 1 || which < -1 || which > 1) {
            return -1;
        }
        Item found = which == -1 ? versions[baseline].type(t) : versions[baseline].member(t, m);
        if (found == null) {
            return -1;
        }
        String asked = which == 1 ? found.descriptor : found.name;
        return index < 0 || index >= asked.length() ? -1 : asked.charAt(index);
    }

    int differ() {
        List<String> one = versions[0].lines();
        List<String> two = versions[1].lines();
        for (int i = 0; i < Math.max(one.size(), two.size()); i++) {
            if (i >= one.size() || i >= two.size() || !one.get(i).equals(two.get(i))) {
                return i + 1;
            }
        }
        return 0;
    }

    int lost(int baseline) {
        if (baseline < 0 || baseline > 1) {
            return -1;
        }
        Set<String> others = new HashSet<>(versions[1 - baseline].ownedLines());
        List<String> own = versions[baseline].ownedLines();
        own.remove(0);
        own.removeIf(others::contains);
        return own.size();
    }

    void swap() {
        Collections.reverse(java.util.Arrays.asList(versions));
    }

    int read(int baseline) {
        if (baseline < 0 || baseline > 1) {
            return -1;
        }
        Version target = new Version();
        versions[baseline] = target;
        diagnostics = new ArrayList<>();
        boolean first = true;
        Item owner = null;
        boolean typeSeen = false;
        String[] lines = text.split("\n", -1);
        for (int number = 1; number <= lines.length; number++) {
            String line = lines[number - 1].replaceAll(" +$", "");
            String bare = line.replaceAll("^ +", "");
            if (bare.isEmpty() || bare.startsWith("!")) {
                continue;
            }
            int firstPlace = line.length() - bare.length() + 1;
            if (first) {
                first = false;
                if (bare.matches("#sig +[12]")) {
                    target.format = bare.charAt(bare.length() - 1) - '0';
                    continue;
                }
                diagnostics.add(new int[] {1, number, firstPlace});
            }
            boolean ofMember = line.startsWith(" ");
            if (ofMember && typeSeen && owner == null) {
                continue;
            }
            Item item = new Item();
            int[] fault = parse(line, firstPlace, ofMember, target.format, item);
            if (fault == null) {
                int number789 = ofMember ? memberFault(owner, item) : typeFault(target, item);
                fault = number789 == 0 ? null : new int[] {number789, firstPlace};
            }
            if (fault != null) {
                diagnostics.add(new int[] {fault[0], number, fault[1]});
            } else if (ofMember) {
                owner.members.put(item.key(), item);
            } else {
                target.types.put(item.name, item);
            }
            if (!ofMember) {
                typeSeen = true;
                owner = fault == null ? item : null;
            }
        }
        return diagnostics.size();
    }

    private static int typeFault(Version target, Item item) {
        return target.types.containsKey(item.name) ? 7 : target.types.size() == 12 ? 8 : 0;
    }

    private static int memberFault(Item owner, Item item) {
        if (owner == null) {
            return 9;
        }
        return owner.members.containsKey(item.key()) ? 7 : owner.members.size() == 8 ? 8 : 0;
    }

    /** The number and place of the first fault among the words, or null. */
    private static int[] parse(String line, int firstPlace, boolean ofMember, int format, Item item) {
        List<String> words = new ArrayList<>();
        List<Integer> places = new ArrayList<>();
        int place = firstPlace;
        for (String word : line.substring(firstPlace - 1).split(" ")) {
            if (!word.isEmpty()) {
                words.add(word);
                places.add(place);
            }
            place += word.length() + 1;
        }
        words.add("");
        places.add(line.length() + 1);
        List<String> marks = ofMember ? MEMBER_MARKS : TYPE_MARKS;
        int w = 0;
        for (; marks.contains(words.get(w)); w++) {
            int mark = 1 << marks.indexOf(words.get(w));
            if ((item.marks & mark) != 0) {
                return new int[] {2, places.get(w)};
            }
            item.marks |= mark;
        }
        item.kind = (ofMember ? MEMBER_KINDS : TYPE_KINDS).indexOf(words.get(w));
        if (item.kind < 0) {
            return new int[] {3, places.get(w)};
        }
        w++;
        item.name = unescaped(words.get(w), format);
        Pattern names = !ofMember ? TYPE_NAME : item.kind == 0 ? FIELD_NAME : METHOD_NAME;
        if (item.name.length() > 20 || !names.matcher(item.name).matches()) {
            return new int[] {4, places.get(w)};
        }
        w++;
        if (ofMember) {
            item.descriptor = unescaped(words.get(w), format);
            Pattern descriptors = item.kind == 0 ? FIELD_DESCRIPTOR : METHOD_DESCRIPTOR;
            if (item.descriptor.length() > 20 || !descriptors.matcher(item.descriptor).matches()) {
                return new int[] {5, places.get(w)};
            }
            w++;
        }
        return words.get(w).isEmpty() ? null : new int[] {6, places.get(w)};
    }

    private static String unescaped(String word, int format) {
        return format == 2 ? word : word.replaceAll("(?<!%)\\$", "?").replace("%$", "$");
    }
}
