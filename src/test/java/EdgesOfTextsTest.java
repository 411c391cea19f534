/** Promises 1 to 6 and Templates: each sentence that names a boundary case, by itself. */
public final class EdgesOfTextsTest {
    /** Templates with every tag: each of their beginnings can go on. */
    private static final String[] WHOLE = {
        "{<9}a{=b|d'x y'|u}{?(a+1)}b{:}c{;}{*az}d{:}{;}{+}e{:}f{;}{#0}{^}{;}{@9}",
        "{$0ab=1c='<'}{~}{;}{!9a,b:!c|l,1}{&1}{-}{;}{%z(a.0?9999)}{t0a}{k9}{;}",
        "{?a}{?b}{?c}{:}{+}{:}{?d}{;}{;}{;}{;}{;}", "{=((((((a-1)*2)<3)=4)&5)?6)}", "{=!!!!a|l|r|j|n|d!b|u|d(1+1)}",
        "{!0a:1,b:2,c:3}{&9'',0}{;}{$9z=!aa=1}{;}", "abc <>\"'\\;:=?*+#^@$!&~%-tk019.,()|"};

    public static void main(String[] args) {
        aNewObject();
        typing();
        textsAndDigits();
        bodies();
        endsOfBodies();
        parametersAndArguments();
        expressions();
        faults();
        templates();
        messages();
        Sheet.end();
    }

    private static void aNewObject() {
        Sheet.says("Ten templates and messages without characters; no output.");
        Quarry x = new Quarry();
        Sheet.throwsDue("no output", IndexOutOfBoundsException.class, () -> x.out(0));
        Sheet.throwsDue("no output", IndexOutOfBoundsException.class, () -> x.outAnew(0));
        Sheet.throwsDue("no output", IndexOutOfBoundsException.class, () -> x.source(0));
        Sheet.throwsDue("no output", IndexOutOfBoundsException.class, () -> x.context(1));
        Sheet.due("the context of no output", x.context(0), TemplateQuarry.TEXT);
        for (int t = 0; t <= 9; t++) Sheet.due("template " + t, x.render(t), 0);
        Sheet s = new Sheet();
        for (int m = 0; m <= 9; m++) s.puts("[{t" + m + "1}{t" + m + "0}]", "[]");
        Sheet.says("The variables of the data are a to z, nothing at first.");
        for (char v = 'a'; v <= 'z'; v++) s.fails("{=" + v + "}", TemplateQuarry.NOTHING);
        Sheet.says("With a step that would be beyond the budget, 1000 at first: STEPS");
        Sheet.due("budget", new TemplateQuarry().budget(1), 1000);
        Sheet.says("added up, all (15) at first");
        for (char v = 'a'; v <= 'z'; v++) Sheet.due("shape of " + v, new TemplateQuarry().shape(v, 1), 15);
        Sheet.says("`NONE = -1`: None.");
        Sheet.due("NONE", TemplateQuarry.NONE, -1);
        Sheet.says("`NOTHING = -2, TYPE = -3, INDEX = -4, NUMBER = -5, MACRO = -6, BLOCK = -7, DEPTH = -8, STEPS = -9, FULL = -10`: Why rendering fails.");
        int[] failures = {TemplateQuarry.NOTHING, TemplateQuarry.TYPE, TemplateQuarry.INDEX, TemplateQuarry.NUMBER, TemplateQuarry.MACRO,
            TemplateQuarry.BLOCK, TemplateQuarry.DEPTH, TemplateQuarry.STEPS, TemplateQuarry.FULL};
        for (int i = 0; i < failures.length; i++) Sheet.due("a failure", failures[i], -2 - i);
        Sheet.says("`TEXT = 0, OPENED = 1, TAG = 2, QUOTED = 3, SCRIPT_TAG = 4, SCRIPT_QUOTED = 5, SCRIPT = 6, STRING = 7`: Contexts.");
        int[] contexts = {TemplateQuarry.TEXT, TemplateQuarry.OPENED, TemplateQuarry.TAG, TemplateQuarry.QUOTED,
            TemplateQuarry.SCRIPT_TAG, TemplateQuarry.SCRIPT_QUOTED, TemplateQuarry.SCRIPT, TemplateQuarry.STRING};
        for (int i = 0; i < contexts.length; i++) Sheet.due("a context", contexts[i], i);
    }

    private static void typing() {
        Quarry x = new Quarry();
        Sheet.says("with a code of 32 to 126");
        Sheet.due("32", x.type((char) 32), 1);
        Sheet.due("126", x.type((char) 126), 2);
        Sheet.says("Throws `IllegalArgumentException` if it has no such code");
        for (char c : new char[] {0, 9, 10, 31, 127, 128, 160, 255, 256, 32767, 65535}) {
            Sheet.throwsDue("code " + (int) c, IllegalArgumentException.class, () -> x.type(c));
        }
        Sheet.says("Returns how many characters it has then.");
        for (int i = 3; i <= 80; i++) Sheet.due("type", x.type('x'), i);
        Sheet.says("Throws `IllegalStateException` if the text has 80");
        Sheet.throwsDue("an 81st", IllegalStateException.class, () -> x.type('x'));
        Sheet.says("If several exceptions apply to a call, the one that its comment lists first is thrown.");
        Sheet.throwsDue("an 81st with no such code", IllegalArgumentException.class, () -> x.type((char) 127));
        Sheet.says("Empties the text; returns how many characters it had.");
        Sheet.due("80", x.wipe(), 80);
        Sheet.due("none", x.wipe(), 0);
        Sheet.due("empty then", x.type('a'), 1);
        Sheet.due("one", x.wipe(), 1);
    }

    /** Goes on behind the text with a character, or has its fault there. */
    private static void next(Sheet s, String ahead, char c, boolean goesOn) {
        s.type(ahead + c);
        int got = s.x.fault();
        s.x.wipe();
        int behind = ahead.length() + 1;
        Sheet.due("fault of " + ahead + c, got == TemplateQuarry.NONE || got == behind, goesOn);
        if (!goesOn) Sheet.due("fault of " + ahead + c, got, ahead.length());
    }

    /** Behind the text goes on what stands in signs, and nothing else of all that can be typed. */
    private static void nexts(Sheet s, String ahead, String signs) {
        for (char c = 32; c <= 126; c++) next(s, ahead, c, signs.indexOf(c) >= 0);
    }

    private static final String DIGITS = "0123456789";
    private static final String LETTERS = "abcdefghijklmnopqrstuvwxyz";
    /** With what a primary begins. */
    private static final String PRIMARY = DIGITS + LETTERS + "'(!";

    private static void textsAndDigits() {
        Sheet s = new Sheet();
        Sheet.says("d is a digit, v a letter a to z, e an expression, b a body");
        for (char tag : "<#@$!&tk".toCharArray()) nexts(s, "{" + tag, DIGITS);
        for (char tag : "*%".toCharArray()) nexts(s, "{" + tag, LETTERS);
        for (char tag : "=?".toCharArray()) nexts(s, "{" + tag, PRIMARY);
        nexts(s, "{*a", PRIMARY);
        nexts(s, "{%z", PRIMARY);
        nexts(s, "{=a.", DIGITS);
        Sheet.says("{td e} with neither blank: {tde} message");
        nexts(s, "{t0", PRIMARY);
        nexts(s, "{t0a", "}|.");
    }

    private static void bodies() {
        Sheet s = new Sheet();
        Sheet.says("A body is any number of characters other than { and }, which are literals, and of tags.");
        for (String ahead : new String[] {"", "x", "{#1}", "{?a}", "{?a}{:}", "{+}x{:}", "{$1}"}) {
            String all = "";
            for (char c = 32; c <= 126; c++) all += c == '}' ? "" : c;
            nexts(s, ahead, all);
        }
        s.fault("", -1);
        Sheet.says("A template is a body; ahead of it there may be one {<d}.");
        String tags = "=?*+#^@$!&~%-tk";
        nexts(s, "{", tags + "<");
        nexts(s, "x{", tags);
        nexts(s, " {", tags);
        nexts(s, "{<0}{", tags);
        nexts(s, "{-}{", tags);
        nexts(s, "{#1}{", tags + ";");
        nexts(s, "{<0", "}");
        s.fault("{<9}", -1);
        s.fault("{<9}x", -1);
        Sheet.says("Tags: {=e} output.");
        for (char tag : "^~-+".toCharArray()) nexts(s, "{" + tag, "}");
        for (char tag : "#@k".toCharArray()) nexts(s, "{" + tag + "0", "}");
        nexts(s, "{=a", "}|.");
        nexts(s, "{=1234", "}|");
    }

    private static void endsOfBodies() {
        Sheet s = new Sheet();
        String tags = "=?*+#^@$!&~%-tk";
        Sheet.says("{?e}b{;} or {?e}b{:}b{;} choice. {*ve}b{;} or {*ve}b{:}b{;} loop. {+}b{:}b{;} try.");
        nexts(s, "{?a}{", tags + ":;");
        nexts(s, "{?a}{:}{", tags + ";");
        nexts(s, "{*aa}{", tags + ":;");
        nexts(s, "{*aa}{:}{", tags + ";");
        nexts(s, "{+}{", tags + ":");
        nexts(s, "{+}{:}{", tags + ";");
        for (String text : new String[] {"{?a}{;}", "{?a}{:}{;}", "{*aa}{;}", "{*aa}{:}{;}", "{+}{:}{;}"}) {
            s.fault(text, -1);
            nexts(s, text + "{", tags);
        }
        nexts(s, "{?a}{:", "}");
        nexts(s, "{?a}{;", "}");
        Sheet.says("{#d}b{;} block. {^} up. {@d} include.");
        nexts(s, "{#1}{", tags + ";");
        for (String text : new String[] {"{#1}{;}", "{^}", "{@1}"}) nexts(s, text + "{", tags);
        Sheet.says("{!da} call; {&da}b{;} call with a body");
        nexts(s, "{!1}{", tags);
        nexts(s, "{&1}{", tags + ";");
        nexts(s, "{&1}{;}{", tags);
        Sheet.says("{kd}b{;} kept fragment");
        nexts(s, "{k1}{", tags + ";");
        nexts(s, "{k1}{;}{", tags);
        // the innermost body that is open is the one that ends
        nexts(s, "{?a}{#1}{", tags + ";");
        nexts(s, "{?a}{#1}{;}{", tags + ":;");
        nexts(s, "{#1}{?a}{;}{", tags + ";");
    }

    private static void parametersAndArguments() {
        Sheet s = new Sheet();
        Sheet.says("p being at most 3 parameters, each v, or v= and a primary");
        nexts(s, "{$0", LETTERS + "}");
        nexts(s, "{$0a", LETTERS.substring(1) + "=}");
        nexts(s, "{$0abc", "=}");
        nexts(s, "{$0abc=1234", "}");
        nexts(s, "{$0a=", PRIMARY);
        nexts(s, "{$0a=1", LETTERS.substring(1) + DIGITS + "}");
        nexts(s, "{$0a=1234", LETTERS.substring(1) + "}");
        nexts(s, "{$0a=a", LETTERS.substring(1) + ".}");
        nexts(s, "{$0a=''", LETTERS.substring(1) + "}");
        nexts(s, "{$0a=!b", LETTERS.substring(1) + ".|}");
        Sheet.says("a being arguments: none, or some, separated by commas, at most 3, each e, or v:e");
        for (String call : new String[] {"{!9", "{&9"}) {
            nexts(s, call, PRIMARY + "}");
            nexts(s, call + "a", ",:.|}");
            nexts(s, call + "a:", PRIMARY);
            nexts(s, call + "a:b", ",.|}");
            nexts(s, call + "a.1", ",|}");
            nexts(s, call + "1234", ",|}");
            nexts(s, call + "1,", PRIMARY);
            nexts(s, call + "1,'',(1+a)", "|}");
            nexts(s, call + "1,2,z", ":.|}");
            nexts(s, call + "1,2,z:3", DIGITS + "|}");
        }
        Sheet.says("Two parameters of a macro are never the same letter; the letter that would be so is at fault.");
        s.fault("{$1aa}{;}", 4);
        s.fault("{$1zbz}{;}", 5);
        s.fault("{$1abb", 5);
        s.fault("{$1a=1a", 6);
        s.fault("{$1a=bba", 7);
        s.fault("{$1a=aa", 6);
        s.fault("{$1a=ab=a}{;}", -1);
        s.fault("{$1a}{;}{$1a}{;}", -1);
        s.fault("{!1a:1,a:1}", -1);
    }

    private static void expressions() {
        Sheet s = new Sheet();
        Sheet.says("Expressions: a primary, and any number of filters behind it.");
        nexts(s, "{=a|", "ulrjnd");
        nexts(s, "{=a|u", "|}");
        nexts(s, "{=(a|u|l", "|+-*<=&?");
        s.fault("{=a" + "|u".repeat(38) + "}", -1);
        Sheet.says("Primaries: a number, 1 to 4 digits, as many as there are;");
        nexts(s, "{=1", DIGITS + "|}");
        nexts(s, "{=123", DIGITS + "|}");
        nexts(s, "{=0000", "|}");
        s.puts("{=0}{=12}{=0345}{=9999}", "0123459999");
        Sheet.says("'text', any characters but ' { and }, as a safe text;");
        String quotable = "";
        for (char c = 32; c <= 126; c++) quotable += c == '{' || c == '}' ? "" : c;
        nexts(s, "{='", quotable);
        nexts(s, "{='a", quotable);
        nexts(s, "{=''", "|}");
        Sheet.says("v; v.d, an item of a list; (eoe), o being one of + - * < = & ?;");
        nexts(s, "{=a.0", "|}");
        nexts(s, "{=(", PRIMARY);
        nexts(s, "{=(1234", "|+-*<=&?");
        nexts(s, "{=(a", ".|+-*<=&?");
        nexts(s, "{=(a+", PRIMARY);
        nexts(s, "{=(a+b", ".|)");
        nexts(s, "{=(a+b)", "|}");
        Sheet.says("!e, which takes all filters that follow.");
        nexts(s, "{=!", PRIMARY);
        nexts(s, "{=!a", ".|}");
        s.text('t', "ab").puts("{=!t|l}{=!''|l}{=!t|u|l}{=(!t|l+1)}{=z|d!t|l}", "01010");
        Sheet.says("Filters: |u |l |r |j |n, and |d and a primary.");
        nexts(s, "{=a|d", PRIMARY);
        nexts(s, "{=a|d1234", "|}");
    }

    private static void faults() {
        Sheet s = new Sheet();
        Sheet.says("of the first character with which no template could go on there, however long it were");
        s.fault("}", 0);
        s.fault("{;}{", 1);
        s.fault("{=" + "(".repeat(77) + "}", 79);
        s.fault("x".repeat(79) + "}", 79);
        s.fault("{=" + "(".repeat(78), 80);
        s.fault("{=" + "!".repeat(78), 80);
        s.fault("{+}".repeat(26) + "{+", 80);
        s.fault("{?a}".repeat(20), 80);
        s.fault("{='" + "x".repeat(77), 80);
        Sheet.says("its length, if it is only too short; NONE if it is a template");
        for (String whole : WHOLE) {
            s.fault(whole, TemplateQuarry.NONE);
            for (int n = 0; n < whole.length(); n++) {
                String text = whole.substring(0, n);
                s.fault(text, Grammar.isTemplate(text) ? TemplateQuarry.NONE : n);
            }
        }
        s.fault("", TemplateQuarry.NONE);
        s.fault("x".repeat(80), TemplateQuarry.NONE);
        s.fault("{", 1);
        s.fault("{?a}x", 5);
    }

    private static void templates() {
        Sheet s = new Sheet();
        Sheet.says("There are the templates 0 to 9, each with a text of at most 80 characters, nothing at first.");
        s.type("x".repeat(80));
        Sheet.due("template 0", s.x.template(0), 0);
        s.type("y");
        Sheet.due("template 9", s.x.template(9), 0);
        s.renders(0, "x".repeat(80));
        s.renders(9, "y");
        Sheet.says("Throws `IndexOutOfBoundsException` if there is no such template");
        for (int t : new int[] {-1, 10, 11, 100, Integer.MIN_VALUE, Integer.MAX_VALUE}) {
            Sheet.throwsDue("template " + t, IndexOutOfBoundsException.class, () -> s.x.template(t));
            Sheet.throwsDue("render " + t, IndexOutOfBoundsException.class, () -> s.x.render(t));
            Sheet.throwsDue("mayEnd " + t, IndexOutOfBoundsException.class, () -> s.x.mayEnd(t));
            Sheet.throwsDue("check " + t, IndexOutOfBoundsException.class, () -> s.x.check(t));
        }
        Sheet.says("Throws `IllegalArgumentException` if the text is no template");
        for (String text : new String[] {"{", "}", "a}", "{?a}", "{=a", "{;}", "x{<1}"}) {
            s.type(text);
            Sheet.throwsDue(text, IllegalArgumentException.class, () -> s.x.template(0));
            Sheet.throwsDue(text + ", no such template", IndexOutOfBoundsException.class, () -> s.x.template(10));
            Sheet.due("the text stays", s.x.wipe(), text.length());
        }
        s.renders(0, "x".repeat(80));
        Sheet.says("Sets a template to the text, which is empty then.");
        s.type("z");
        s.x.template(9);
        Sheet.due("empty then", s.x.wipe(), 0);
        s.renders(9, "z");
        Sheet.due("an empty text", s.x.template(9), 0);
        s.renders(9, "");
        Sheet.says("Returns how many tags it has, {:} and {;} not counted, {<d} counted.");
        String[] texts = {"", "abc", "{<1}", "{<1}{-}", "{?a}{:}{;}", "{?a}{;}{?a}{;}", "{*aa}{:}{;}", "{+}{:}{;}", "{#1}{#1}{^}{;}{;}",
            "{@1}", "{$1ab=1}{~}{;}", "{!11,2}", "{&1}{;}", "{%a1}", "{t11}", "{k1}{;}", "{=1}{=(1+1)}", "{-}".repeat(26)};
        int[] tags = {0, 0, 1, 2, 1, 2, 1, 1, 3, 1, 2, 1, 1, 1, 1, 1, 2, 26};
        for (int i = 0; i < texts.length; i++) {
            s.type(texts[i]);
            Sheet.due("tags of " + texts[i], s.x.template(5), tags[i]);
        }
    }

    private static void messages() {
        Sheet s = new Sheet();
        Sheet.says("Sets a form of a message to the text, which is empty then.");
        for (int m = 0; m <= 9; m++) {
            for (int f = 0; f <= 1; f++) {
                s.type("m" + m + "f" + f);
                Sheet.due("message", s.x.message(m, f), 0);
                Sheet.due("empty then", s.x.wipe(), 0);
            }
        }
        for (int m = 0; m <= 9; m++) s.puts("{t" + m + "1}{t" + m + "2}", "m" + m + "f0m" + m + "f1");
        Sheet.says("Throws `IndexOutOfBoundsException` if there is no such message");
        for (int m : new int[] {-1, 10, Integer.MIN_VALUE, Integer.MAX_VALUE}) {
            Sheet.throwsDue("message " + m, IndexOutOfBoundsException.class, () -> s.x.message(m, 0));
            Sheet.throwsDue("message " + m + ", no form", IndexOutOfBoundsException.class, () -> s.x.message(m, 2));
        }
        Sheet.says("Throws `IllegalArgumentException` if form is out of its range");
        for (int f : new int[] {-1, 2, Integer.MIN_VALUE, Integer.MAX_VALUE}) {
            Sheet.throwsDue("form " + f, IllegalArgumentException.class, () -> s.x.message(0, f));
            Sheet.throwsDue("form " + f, IllegalArgumentException.class, () -> s.x.message(9, f));
        }
        Sheet.says("Returns how many # it has.");
        Sheet.due("of an empty text", s.x.message(3, 0), 0);
        s.type("#");
        Sheet.due("of #", s.x.message(3, 0), 1);
        s.type("#".repeat(80));
        Sheet.due("of 80 #", s.x.message(3, 1), 80);
        s.type("{;}#}\"'#");
        Sheet.due("of what is no template", s.x.message(3, 1), 2);
        s.puts("{t31}{t32}", "1{;}2}\"'2");
    }
}
