/** READING, sentence by sentence of the document's terms: each text with its diagnostics and what was taken of it. */
public final class ReadingTest extends Checks {
    public static void main(String[] args) {
        linesOfTheText();
        skippedLines();
        wordsOfALine();
        firstLine();
        firstLineReadOn();
        noFirstLine();
        membersAreIndented();
        marksOnce();
        kindLacks();
        nameLacks();
        descriptorLacks();
        noMoreWords();
        escapesRead();
        wordsAsTheyAre();
        thirteenthType();
        memberWithoutType();
        membersOfBrokenTypes();
        ninthMember();
        notTaken();
        places();
        firstDiagnosticOfALine();
        firstTwentyAreKept();
        rereading();
        end();
    }

    private static void linesOfTheText() {
        sentence("Its LINES are what stands before the first line feed, between two, and behind the last one, if anything stands there; numbered from 1");
        reads("enum", "1@1:1 4@1:5", TOP);
        reads("enum\n", "1@1:1 4@1:5", TOP);
        reads("\nenum", "1@2:1 4@2:5", TOP);
        reads("\n", "", TOP);
        reads(TOP + "enum\nenum\n\nenum", "4@2:5 4@3:5 4@5:5", TOP);
        reads("\n".repeat(475) + "class", "1@476:1 4@476:6", TOP);
        reads("\n".repeat(480), "", TOP);
        reads("x".repeat(480), "1@1:1 3@1:1", TOP);
    }

    private static void skippedLines() {
        sentence("Of each line blanks at the end are dropped; a line with nothing, or whose first character that is no blank is !, is skipped");
        reads(" ".repeat(480), "", TOP);
        reads("!".repeat(480), "", TOP);
        reads("!\n" + TOP + "enum a\n!enum b\n   !enum c\n ! field f V\n\n    \n field f I  \n", "", TOP + "enum a\n  field f I\n");
        reads(TOP + "enum   \nfinal \nenum a b  ", "4@2:5 3@3:6 6@4:8", TOP);
        reads(TOP + "enum a ! b", "6@2:8", TOP);
        reads(TOP + "enum a!", "4@2:6", TOP);
        reads(TOP + "enum 1\n!\n\n field f V\n!\nenum a", "4@2:6", TOP + "enum a\n");
    }

    private static void wordsOfALine() {
        sentence("WORDS are the longest stretches without blanks");
        reads("   #sig     2\npublic    final      enum     a\n      static      field      f       I", "", TOP + "public final enum a\n  static field f I\n");
        reads(TOP + "publicfinal enum a", "3@2:1", TOP);
        reads(TOP + "enum a\n field fI", "5@3:10", TOP + "enum a\n");
    }

    private static void firstLine() {
        sentence("The first line not skipped must be #sig and 1 or 2, as its two words: else diagnostic 1, at its first word");
        for (int code = 33; code <= 126; code++) {
            BaselineText x = typed("#sig " + (char) code);
            boolean right = code == '1' || code == '2';
            due("read of " + (char) code, x.read(0), right ? 0 : 2);
            due("format of " + (char) code, x.format(0, 2), code == '1' ? 1 : 2);
        }
        for (String first : new String[] {"#sig", "#", "#si 1", "#sigs 1", "#SIG 1", "#sig1", "#sig 12", "#sig 1 2", "#sig 1 1", "#sig 01", "1 #sig", "sig 1"}) {
            reads(first, "1@1:1 3@1:1", TOP);
            reads("\n! x\n   " + first, "1@3:4 3@3:4", TOP);
        }
        reads("\n  \n!\n  #sig  1  \n", "", TOP1);
    }

    private static void firstLineReadOn() {
        sentence("and that line is read as any other, the format being 2 (told apart from, and before, one that the line gets besides, and does not break it)");
        reads("enum a$\n field f I", "1@1:1", TOP + "enum a$\n  field f I\n");
        reads("enum a%$\nenum b$", "1@1:1 4@1:6", TOP + "enum b$\n");
        reads("final final", "1@1:1 2@1:7", TOP);
        reads("final a", "1@1:1 3@1:7", TOP);
        reads("enum 1\n field f I", "1@1:1 4@1:6", TOP);
        reads(" field f V", "1@1:2 5@1:10", TOP);
        reads("enum a b\n nonsense\nenum c\n field f I", "1@1:1 6@1:8", TOP + "enum c\n  field f I\n");
        reads("  field f I\nenum a", "1@1:3 9@1:3", TOP + "enum a\n");
        reads("#sig 3\n field f I\nenum a", "1@1:1 3@1:1", TOP + "enum a\n");
        reads(" #sig 3\n field f I\nenum a", "1@1:2 3@1:2 9@2:2", TOP + "enum a\n");
        reads("enum a\n#sig 1\nenum b$", "1@1:1 3@2:1", TOP + "enum a\nenum b$\n");
        reads(TOP1 + "#sig 2\nenum %$", "3@2:1", TOP1 + "enum %$\n");
    }

    private static void noFirstLine() {
        sentence("Without any such line the format is 2");
        for (String text : new String[] {"", "\n", "  \n! #sig 1\n", "!#sig 1"}) {
            BaselineText x = typed(text);
            x.format(0, 1);
            due("read of [" + text + "]", x.read(0), 0);
            due("format of [" + text + "]", x.format(0, 1), 2);
        }
    }

    private static void membersAreIndented() {
        sentence("Every other line is a member's if its first word is preceded by a blank, else a type's");
        reads(TOP + "enum a\n field f I\n            field g I", "", TOP + "enum a\n  field f I\n  field g I\n");
        reads(TOP + "enum a\nfield f I", "3@3:1", TOP + "enum a\n");
        reads(TOP + "enum a\n enum b", "3@3:2", TOP + "enum a\n");
        reads("  #sig 2\nenum a", "", TOP + "enum a\n");
    }

    private static void marksOnce() {
        sentence("marks' words as long as there are any of that kind of line, in any order, each at most once (a second time: diagnostic 2)");
        String top = TOP + "enum e\n";
        for (String mark : TYPE_MARKS) {
            reads(TOP + mark + " enum a", "", TOP + mark + " enum a\n");
            reads(TOP + mark + "  " + mark + " enum a", "2@2:" + (mark.length() + 3), TOP);
        }
        for (String mark : MEMBER_MARKS) {
            reads(top + " " + mark + " field f I", "", top + "  " + mark + " field f I\n");
            reads(top + " " + mark + "  " + mark + " field f I", "2@3:" + (mark.length() + 4), top);
        }
        reads(TOP + "final abstract public final enum a", "2@2:23", TOP);
        reads(TOP + "abstract final public enum a", "", TOP + "public abstract final enum a\n");
        reads(top + " abstract final static protected public abstract field f I", "2@3:41", top);
        reads(top + " static abstract public final protected field f I", "", top + "  public protected static final abstract field f I\n");
        reads(TOP + "static enum a", "3@2:1", TOP);
        reads(TOP + "public protected enum a", "3@2:8", TOP);
        reads(TOP + "enum public", "", TOP + "enum public\n");
        reads(TOP + "enum a public", "6@2:8", TOP);
    }

    private static void kindLacks() {
        sentence("then the kind's word, else diagnostic 3");
        String top = TOP + "enum e\n";
        for (String kind : TYPE_KINDS) {
            reads(TOP + kind + " a", "", TOP + kind + " a\n");
            reads(TOP + kind.substring(1) + " a", "3@2:1", TOP);
            reads(top + " " + kind + " f I", "3@3:2", top);
        }
        for (String kind : MEMBER_KINDS) {
            reads(TOP + kind + " a", "3@2:1", TOP);
            reads(top + " " + kind.substring(1) + " f I", "3@3:2", top);
        }
        reads(TOP + "final", "3@2:6", TOP);
        reads(TOP + "public abstract final", "3@2:22", TOP);
        reads(top + " final", "3@3:7", top);
        reads(top + " public protected static final abstract", "3@3:40", top);
    }

    private static void nameLacks() {
        sentence("then the name, else diagnostic 4 (also if there is no word)");
        String top = TOP + "enum e\n";
        reads(TOP + "final  enum", "4@2:12", TOP);
        reads(TOP + "final  enum  1", "4@2:14", TOP);
        reads(top + " final field", "4@3:13", top);
        reads(top + " method 1 x y", "4@3:9", top);
    }

    private static void descriptorLacks() {
        sentence("for a member the descriptor, else diagnostic 5 (likewise)");
        String top = TOP + "enum e\n";
        reads(top + " field f", "5@3:9", top);
        reads(top + " field  f  x y", "5@3:12", top);
        reads(top + " method f  ", "5@3:10", top);
        reads(top + " method f I", "5@3:11", top);
        reads(TOP + "enum a I", "6@2:8", TOP);
    }

    private static void noMoreWords() {
        sentence("then no more words, else diagnostic 6");
        String top = TOP + "enum e\n";
        reads(TOP + "enum a   b c", "6@2:10", TOP);
        reads(top + " field f I  I", "6@3:13", top);
        reads(top + " method f ()V ;", "6@3:15", top);
    }

    private static void escapesRead() {
        sentence("In format 1 %$ stands for $, and a $ without % before it, and a % without $ behind it, are as characters that cannot stand there");
        String top = TOP1 + "enum e\n";
        everyCode(TOP1, "class #", 4, code -> isLetter(code) && code != '$');
        everyCode(TOP1, "class a#", 4, code -> isLetterOrDigit(code) && code != '$');
        everyCode(TOP1, "class a%#", 4, code -> code == '$');
        everyCode(TOP1, "class a#$", 4, code -> code == '%');
        everyCode(TOP1, "class #%$", 4, code -> isLetter(code) && code != '$');
        everyCode(TOP1, "class %$#", 4, code -> isLetterOrDigit(code) && code != '$');
        everyCode(top, " field %# I", 4, code -> code == '$');
        everyCode(top, " field f L%#;", 5, code -> code == '$');
        everyCode(top, " field f L#$;", 5, code -> code == '%');
        everyCode(top, " method f ()L#$;", 5, code -> code == '%');
        everyCode(TOP, "class a%#", 4, code -> false);
        reads(TOP1 + "enum a% $", "4@2:6", TOP1);
        reads(TOP1 + "enum a%\n$", "4@2:6 3@3:1", TOP1);
        reads(TOP1 + "enum a%$" + "b".repeat(18), "", TOP1 + "enum a%$" + "b".repeat(18) + "\n");
        reads(TOP1 + "enum a%$" + "b".repeat(19), "4@2:6", TOP1);
        reads(TOP1 + "enum " + "%$".repeat(21), "4@2:6", TOP1);
        reads(top + " field f L" + "%$".repeat(18) + ";", "", top + "  field f L" + "%$".repeat(18) + ";\n");
        reads(top + " field f L" + "%$".repeat(19) + ";", "5@3:10", top);
        BaselineText x = typed(top + " field %$ L%$a;");
        x.read(0);
        due("name", nameOf(x, 0, 0, 0, 0), "$");
        due("descriptor", nameOf(x, 0, 0, 0, 1), "L$a;");
        due("length of the name", x.member(0, 0, 0, 2), 1);
        due("length of the descriptor", x.member(0, 0, 0, 3), 4);
    }

    private static void wordsAsTheyAre() {
        sentence("Words told above are compared as they are");
        String top = TOP + "enum e\n";
        for (String word : new String[] {"public", "abstract", "final", "class", "interface", "enum", "record"}) {
            for (String wrong : new String[] {word.toUpperCase(), word + "s", word.substring(0, word.length() - 1), "%$" + word}) {
                reads(TOP + wrong + " class a", "3@2:1", TOP);
                reads(TOP1 + wrong + " class a", "3@2:1", TOP1);
            }
        }
        for (String word : new String[] {"public", "protected", "static", "final", "abstract", "field", "method"}) {
            for (String wrong : new String[] {word.toUpperCase(), word + "s", word.substring(0, word.length() - 1)}) {
                reads(top + " " + wrong + " field f I", "3@3:2", top);
            }
        }
    }

    private static void thirteenthType() {
        sentence("a type with the name of an earlier one that was taken: diagnostic 7; else a 13th type: 8");
        reads(TWELVE + "enum m\nenum n", "8@14:1 8@15:1", TWELVE);
        reads(TWELVE + "enum l\nenum a\nenum m", "7@14:1 7@15:1 8@16:1", TWELVE);
        reads(TWELVE + "enum 1\nenum m m", "4@14:6 6@15:8", TWELVE);
        reads(TWELVE.replace("enum l\n", "enum a\nenum 1\nenum l\n"), "7@13:1 4@14:6", TWELVE);
        reads(TOP + "enum a b\nenum a", "6@2:8", TOP + "enum a\n");
        reads(TOP + "enum a\nenum a\nenum a", "7@3:1 7@4:1", TOP + "enum a\n");
    }

    private static void memberWithoutType() {
        sentence("A member without a type line before it that was taken or broken: diagnostic 9");
        reads(TOP + " field f I", "9@2:2", TOP);
        reads(TOP + "   field f I\n method g ()V\nenum a\n field f I", "9@2:4 9@3:2", TOP + "enum a\n  field f I\n");
        reads(TOP + " field f V\n field f I", "5@2:10 9@3:2", TOP);
        BaselineText x = typed("enum a");
        x.read(0);
        retype(x, TOP + " field f I");
        due("a type of an earlier reading does not count", x.read(0), 1);
        due("nor one of the other baseline", x.read(1), 1);
    }

    private static void membersOfBrokenTypes() {
        sentence("if the last type line before it was broken, the member is skipped without a diagnostic, whatever it says");
        String skipped = "\n field f I\n field f V\n nonsense\n #sig 1\n static static";
        String[][] broken = {{"final final enum b", "2@4:7"}, {"enums b", "3@4:1"}, {"enum", "4@4:5"}, {"enum b c", "6@4:8"}, {"class a", "7@4:1"}};
        for (String[] one : broken) {
            reads(TOP + "enum a\n field a I\n" + one[0] + skipped, one[1], TOP + "enum a\n  field a I\n");
            reads(TOP + "enum a\n field a I\n" + one[0] + skipped + "\nenum c\n field c I", one[1],
                    TOP + "enum a\n  field a I\nenum c\n  field c I\n");
        }
        reads(TWELVE + "enum m" + skipped, "8@14:1", TWELVE);
        reads(TOP + "enum" + skipped, "4@2:5", TOP);
    }

    private static void ninthMember() {
        sentence("a member alike in name, kind and descriptor to one of its type: 7; a 9th member: 8");
        reads(EIGHT + " field i I\n  field j I", "8@11:2 8@12:3", EIGHT);
        reads(EIGHT + " field h I\n field a I\n field i I", "7@11:2 7@12:2 8@13:2", EIGHT);
        reads(EIGHT + " field i V\n field i", "5@11:10 5@12:9", EIGHT);
        reads(EIGHT.replace("  field h I\n", " field a I\n field a V\n field h I\n"), "7@10:2 5@11:10", EIGHT);
        reads(EIGHT + "enum b\n  field i I\n", "", EIGHT + "enum b\n  field i I\n");
    }

    private static void notTaken() {
        sentence("A type's line with a diagnostic is BROKEN; a line with a diagnostic is not taken");
        reads(TOP + "public enum a b\nenum a", "6@2:15", TOP + "enum a\n");
        reads(TOP + "enum a\n static field f I I\n field f I\n nonsense\n field g I", "6@3:19 3@5:2", TOP + "enum a\n  field f I\n  field g I\n");
    }

    private static void places() {
        sentence("at the place (from 1) in it of the first character of the word that is wrong, or, where a word lacks, just behind the last word of the line");
        reads("x", "1@1:1 3@1:1", TOP);
        reads(" ".repeat(479) + "x", "1@1:480 3@1:480", TOP);
        reads(" ".repeat(474) + "method", "1@1:475 4@1:481", TOP);
        reads(TOP + "final" + " ".repeat(20) + "enum" + " ".repeat(20), "4@2:30", TOP);
        reads(TOP + "enum a\n" + " ".repeat(30) + "field f" + " ".repeat(9), "5@3:38", TOP + "enum a\n");
        sentence("7, 8 and 9 stand at the first word");
        reads(TOP + "   final field f I", "9@2:4", TOP);
        reads(TOP + "enum a\nfinal enum a", "7@3:1", TOP + "enum a\n");
        reads(EIGHT + "      static field a I\n     static field i I", "7@11:7 8@12:6", EIGHT);
        reads(TWELVE + "final enum m", "8@14:1", TWELVE);
    }

    private static void firstDiagnosticOfALine() {
        sentence("Only the first diagnostic of a line counts (but for 1)");
        reads(TOP + "final final 1 2 3", "2@2:7", TOP);
        reads(TOP + "x 1 2", "3@2:1", TOP);
        reads(TOP + "enum 1 2", "4@2:6", TOP);
        reads(TOP + "enum a\nenum a b", "6@3:8", TOP + "enum a\n");
        reads(TOP + " field 1 V x", "4@2:8", TOP);
        reads(TOP + "enum a\n field f V x", "5@3:10", TOP + "enum a\n");
        reads(EIGHT + " field i I x", "6@11:12", EIGHT);
        reads("final final 1", "1@1:1 2@1:7", TOP);
    }

    private static void firstTwentyAreKept() {
        sentence("the first 20 are kept");
        for (int wrong = 18; wrong <= 23; wrong++) {
            BaselineText x = typed(TOP + lines("enum #\n", "123456789012345678901234".substring(0, wrong)));
            due("diagnostics", x.read(0), wrong);
            int kept = Math.min(20, wrong);
            due("line of the last one kept", x.diagnostic(kept - 1, 1), kept + 1);
            due("none behind it", x.diagnostic(kept, 0), REFUSED);
        }
        BaselineText x = typed("x\n".repeat(20));
        due("diagnostic 1 counts too", x.read(0), 21);
        due("line of the last one kept", x.diagnostic(19, 1), 19);
        due("none behind it", x.diagnostic(20, 0), REFUSED);
        x = typed(TOP + "x\n".repeat(30) + "enum a");
        x.read(0);
        due("reading goes on behind the 20th", x.types(0), 1);
    }

    private static void rereading() {
        sentence("in place of what it had: nothing of longer names that stood there before counts");
        String shorter = TOP + "enum a\n  field f I\n  field fg I\nenum ab\n  field f [I\n";
        String backwards = TOP + "enum ab\n  field f [I\nenum a\n  field fg I\n  field f I\n";
        for (String tail : new String[] {"z", "$", "g$"}) {
            for (String text : new String[] {shorter, backwards}) {
                BaselineText x = typed(TOP + "enum a#\n field f# [[I\n field g# I\nenum b#\n field f# I\n field g# I\n".replace("#", tail));
                x.read(0);
                retype(x, text);
                due("read in place of longer names", x.read(0), 0);
                due("write", x.write(0), shorter.length());
                due("form", textOf(x), shorter);
                x.read(1);
                due("the same", x.differ(), 0);
                x.format(1, 1);
                due("no $ left", x.lost(0), 0);
            }
        }
    }
}
