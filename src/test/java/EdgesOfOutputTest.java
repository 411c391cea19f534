/** Promises 18 to 23 and Contexts: each sentence that names a boundary case, by itself. */
public final class EdgesOfOutputTest {
    /** What leads from TEXT to each context, by its number. */
    private static final String[] TO = {"", "<", "<b", "<b\"", "<s", "<s\"", "<s>", "<s>'"};

    public static void main(String[] args) {
        contexts();
        escapes();
        whole();
        places();
        outAnew();
        sources();
        alike();
        Sheet.end();
    }

    /** By the words of the document, sign after sign. */
    private static int led(int context, char c) {
        switch (context) {
            case TemplateQuarry.TEXT:
                return c == '<' ? TemplateQuarry.OPENED : TemplateQuarry.TEXT;
            case TemplateQuarry.OPENED:
                return c == '>' ? TemplateQuarry.TEXT : c == 's' ? TemplateQuarry.SCRIPT_TAG : TemplateQuarry.TAG;
            case TemplateQuarry.TAG:
                return c == '>' ? TemplateQuarry.TEXT : c == '"' ? TemplateQuarry.QUOTED : TemplateQuarry.TAG;
            case TemplateQuarry.QUOTED:
                return c == '"' ? TemplateQuarry.TAG : TemplateQuarry.QUOTED;
            case TemplateQuarry.SCRIPT_TAG:
                return c == '>' ? TemplateQuarry.SCRIPT : c == '"' ? TemplateQuarry.SCRIPT_QUOTED : TemplateQuarry.SCRIPT_TAG;
            case TemplateQuarry.SCRIPT_QUOTED:
                return c == '"' ? TemplateQuarry.SCRIPT_TAG : TemplateQuarry.SCRIPT_QUOTED;
            case TemplateQuarry.SCRIPT:
                return c == '\'' ? TemplateQuarry.STRING : c == '<' ? TemplateQuarry.OPENED : TemplateQuarry.SCRIPT;
            default:
                return c == '\'' ? TemplateQuarry.SCRIPT : TemplateQuarry.STRING;
        }
    }

    private static String putOut(int context, char c) {
        boolean isPlain = c >= 'a' && c <= 'z' || c >= 'A' && c <= 'Z' || c >= '0' && c <= '9';
        switch (context) {
            case TemplateQuarry.TEXT: case TemplateQuarry.QUOTED: case TemplateQuarry.SCRIPT_QUOTED:
                return c == '<' ? "&l;" : c == '>' ? "&g;" : c == '&' ? "&a;" : c == '"' ? "&q;" : "" + c;
            case TemplateQuarry.STRING:
                return c == '\'' || c == '\\' || c == '<' ? "_" : "" + c;
            case TemplateQuarry.OPENED:
                return "";
            default:
                return isPlain ? "" + c : "";
        }
    }

    /** Each character that can be typed, if it leads elsewhere or not. */
    private static void leads(Sheet s, int from, boolean elsewhere) {
        for (char c = 32; c <= 126; c++) {
            if (from != TemplateQuarry.OPENED && (led(from, c) != from) != elsewhere) continue;
            s.text('a', TO[from] + c);
            int n = s.x.render(0);
            Sheet.due("context " + from + " behind " + c, s.x.context(n), led(from, c));
        }
    }

    private static void contexts() {
        Sheet s = new Sheet();
        Sheet.says("lead from context to context, from TEXT at first");
        s.set(0, "{=a|r}");
        for (int from = 0; from < TO.length; from++) {
            s.text('a', TO[from]);
            s.renders(0, TO[from]);
            Sheet.due("ahead of all", s.x.context(0), TemplateQuarry.TEXT);
            Sheet.due("context behind " + TO[from], s.x.context(TO[from].length()), from);
        }
        String[] ways = {"- TEXT: < leads to OPENED.", "- OPENED: > leads to TEXT; s to SCRIPT_TAG; all others to TAG.", "- TAG: > leads to TEXT, \" to QUOTED.",
            "QUOTED: \" leads to TAG.", "- SCRIPT_TAG: > leads to SCRIPT, \" to SCRIPT_QUOTED.", "SCRIPT_QUOTED: \" leads to SCRIPT_TAG.",
            "- SCRIPT: ' leads to STRING, < to OPENED.", "STRING: ' leads to SCRIPT."};
        for (int from = 0; from < TO.length; from++) {
            Sheet.says(ways[from]);
            leads(s, from, true);
            Sheet.says("All others leave it as it is.");
            leads(s, from, false);
        }
        Sheet.says("The characters of the output, one behind the other");
        // by whatever they are put out
        s.message(0, "<", "\">").number('n', 1).text('t', "b");
        s.puts("<b{t02}", "<b\">");
        Sheet.due("context", s.x.context(4), TemplateQuarry.QUOTED);
        s.puts("{t01}s{t02}{t02}", "<s\">\">");
        Sheet.due("context", s.x.context(6), TemplateQuarry.SCRIPT);
        s.puts("<{=n}", "<1");
        Sheet.due("context", s.x.context(2), TemplateQuarry.TAG);
        s.puts("<s>{='\"'}{=t}{k1}<{;}>", "<s>\"b<>");
        Sheet.due("context", s.x.context(7), TemplateQuarry.TEXT);
    }

    private static void escapes(Sheet s, int in) {
        s.text('a', TO[in]);
        for (char c = 32; c <= 126; c++) {
            s.text('t', "" + c);
            s.renders(0, TO[in] + putOut(in, c));
        }
    }

    private static void escapes() {
        Sheet s = new Sheet();
        s.set(0, "{=a|r}{=t}");
        Sheet.says("in TEXT, QUOTED and SCRIPT_QUOTED as &l; for <, &g; for >, &a; for &, &q; for \", and itself otherwise;");
        for (int in : new int[] {TemplateQuarry.TEXT, TemplateQuarry.QUOTED, TemplateQuarry.SCRIPT_QUOTED}) escapes(s, in);
        Sheet.says("in STRING as _ for ', \\ and <, and itself otherwise;");
        escapes(s, TemplateQuarry.STRING);
        Sheet.says("in TAG, SCRIPT_TAG and SCRIPT itself, if it is a letter or a digit, otherwise not at all;");
        for (int in : new int[] {TemplateQuarry.TAG, TemplateQuarry.SCRIPT_TAG, TemplateQuarry.SCRIPT}) escapes(s, in);
        Sheet.says("in OPENED not at all.");
        escapes(s, TemplateQuarry.OPENED);
        Sheet.says("Of another text each character is put out by the context in which it stands then");
        s.text('t', "sab<>").puts("<{=t}", "<");
        Sheet.due("it leads nowhere", s.x.context(1), TemplateQuarry.OPENED);
        s.puts("<{=t}s{=t}>{=t}", "<ssab>sab");
        Sheet.says("To put out a text that is safe is to put out its characters.");
        for (int in = 0; in < TO.length; in++) {
            for (char c = 32; c <= 126; c++) {
                s.text('a', TO[in]).text('t', "" + c).puts("{=a|r}{=t|r}", TO[in] + c);
            }
            if (in % 3 == 2) s = new Sheet();
        }
        Sheet.says("To put out a number is to put out its digits, with a - ahead if it is below 0.");
        s = new Sheet();
        s.set(0, "{=a|r}{=n}");
        int[] numbers = {0, 7, -7, 10, -10, 99, 100, Integer.MAX_VALUE, Integer.MIN_VALUE};
        for (String to : TO) {
            for (int n : numbers) {
                s.text('a', to).number('n', n);
                s.renders(0, to + n);
            }
        }
    }

    /** The aim: whatever a text of the data is, its context is behind it as it was ahead of it, but for one tag's text. */
    private static void whole() {
        Sheet s = new Sheet();
        Sheet.says("The aim is that no text of the data stands where its context would read it as code");
        String all = "";
        for (char c = 32; c <= 126; c++) all += c;
        s.set(0, "{=a|r}{=t}");
        for (int in = 0; in < TO.length; in++) {
            for (int from = 0; from < all.length(); from += 32) {
                s.text('a', TO[in]).text('t', all.substring(from, Math.min(all.length(), from + 32)));
                int n = s.x.render(0);
                Sheet.due("context " + in, s.x.context(n), in);
            }
        }
    }

    private static void places() {
        Sheet s = new Sheet();
        Quarry x = s.x;
        Sheet.says("Throws `IndexOutOfBoundsException` if there is no such place");
        for (int n : new int[] {0, 1, 80}) {
            s.set(0, "x".repeat(n));
            s.renders(0, "x".repeat(n));
            for (int place : new int[] {Integer.MIN_VALUE, -1, n, n + 1, 300, 301, Integer.MAX_VALUE}) {
                Sheet.throwsDue("out " + place, IndexOutOfBoundsException.class, () -> x.out(place));
                Sheet.throwsDue("outAnew " + place, IndexOutOfBoundsException.class, () -> x.outAnew(place));
                Sheet.throwsDue("source " + place, IndexOutOfBoundsException.class, () -> x.source(place));
                if (place != n) Sheet.throwsDue("context " + place, IndexOutOfBoundsException.class, () -> x.context(place));
            }
            if (n > 0) {
                Sheet.due("first", x.out(0), 'x');
                Sheet.due("last", x.out(n - 1), 'x');
                Sheet.due("last", x.outAnew(n - 1), 'x');
                Sheet.due("last", x.source(n - 1), n - 1);
            }
        }
        Sheet.says("0 for the first one, up to the number of characters");
        s.set(0, "<");
        s.renders(0, "<");
        Sheet.due("context 0", x.context(0), TemplateQuarry.TEXT);
        Sheet.due("context 1", x.context(1), TemplateQuarry.OPENED);
        s.set(0, "");
        s.renders(0, "");
        Sheet.due("context 0", x.context(0), TemplateQuarry.TEXT);
        // an output that is full
        s.text('t', "0123456789".repeat(3)).set(0, "{%f((t+t)+(t+t))}{%f(f+(t+t))}{=f}{=t}{=t}{=t}{=t|r}");
        s.renders(0, "0123456789".repeat(30));
        Sheet.due("the 300th", x.out(299), '9');
        Sheet.due("the 300th", x.outAnew(299), '9');
        Sheet.due("context 300", x.context(300), TemplateQuarry.TEXT);
        Sheet.throwsDue("out 300", IndexOutOfBoundsException.class, () -> x.out(300));
        Sheet.throwsDue("context 301", IndexOutOfBoundsException.class, () -> x.context(301));
        // a longer one ahead of it leaves nothing
        s.set(0, "ab");
        s.renders(0, "ab");
        Sheet.throwsDue("out 2", IndexOutOfBoundsException.class, () -> x.out(2));
        Sheet.throwsDue("context 3", IndexOutOfBoundsException.class, () -> x.context(3));
    }

    private static void outAnew() {
        Sheet.says("Returns the same, by itself: the character that it stands for in a literal, number, text or message, put out anew");
        String all = "";
        for (char c = 32; c <= 126; c++) all += c;
        for (int in = 0; in < TO.length; in++) {
            Sheet s = new Sheet();
            s.set(0, "{=a|r}{=t}").set(1, "{=a|r}{k1}{=t}-{;}").text('a', TO[in]);
            for (int from = 0; from < all.length(); from += 24) {
                s.text('t', all.substring(from, Math.min(all.length(), from + 24)));
                same(s, 0);
                same(s, 1);
                same(s, 1);
            }
        }
        Sheet s = new Sheet();
        s.message(0, "<#\"", "&#").number('n', -12).text('t', "<&").set(2, "< {-}{=t}s{t0n}>{=t}'{=t}'{=n}{+}<\"{=z}{:}<{=t}{;}b{t01}{t01}{=t}");
        same(s, 2);
    }

    private static void same(Sheet s, int template) {
        int n = s.x.render(template);
        Sheet.due("it renders", n >= 0, true);
        for (int i = 0; i < n; i++) Sheet.due("outAnew " + i, s.x.outAnew(i), s.x.out(i));
    }

    private static void sources() {
        Sheet s = new Sheet();
        Sheet.says("Returns 100 times the template, and the place in its text of the literal, or of the { of the tag that put it out, together.");
        s.set(0, "x".repeat(76) + "{=1}").set(9, "x".repeat(80));
        s.renders(0, "x".repeat(76) + "1");
        for (int i = 0; i <= 76; i++) Sheet.due("source", s.x.source(i), i);
        s.renders(9, "x".repeat(80));
        for (int i = 0; i < 80; i++) Sheet.due("source", s.x.source(i), 900 + i);
        s.message(1, "ab#", "").text('t', "<").number('n', -10);
        s.set(8, "{t11}{=t}{=n}{='ab'}").set(7, "{@8}").set(6, "{<5}{#1}{k1}m{=n}{;}{^}{;}").set(5, "[{#1}{=t}{;}]");
        s.renders(7, "ab1&l;-10ab");
        int[] want = {800, 800, 800, 805, 805, 805, 809, 809, 809, 813, 813};
        for (int i = 0; i < want.length; i++) Sheet.due("source", s.x.source(i), want[i]);
        for (int pass = 0; pass < 2; pass++) {
            s.renders(6, "[m-10&l;]");
            Sheet.due("hits", s.x.hits(), pass);
            for (int i = 0; i < 9; i++) Sheet.due("source " + i, s.x.source(i), sourceOfLine(i));
        }
    }

    /** Of [m-10&l;], as the templates 5 and 6 put it out. */
    private static int sourceOfLine(int place) {
        String six = "{<5}{#1}{k1}m{=n}{;}{^}{;}";
        String five = "[{#1}{=t}{;}]";
        if (place == 0) return 500;
        if (place == 1) return 600 + six.indexOf('m');
        if (place <= 4) return 600 + six.indexOf("{=n}");
        return 500 + (place <= 7 ? five.indexOf("{=t}") : five.indexOf(']'));
    }

    private static void alike(Sheet s, String text, int ahead, int behind) {
        s.text('t', text);
        s.renders(0, text);
        Sheet.due("alike of " + text, s.x.alike(), ahead);
        Sheet.due("alikeAtEnd of " + text, s.x.alikeAtEnd(), behind);
    }

    private static void alike() {
        Sheet s = new Sheet();
        s.set(0, "{=t|r}").set(1, "{=z}").set(2, "a{=t}");
        Sheet.says("Returns how many characters the output, and that of the rendering before it, have alike at the beginning.");
        Sheet.due("ahead of all", s.x.alike(), 0);
        alike(s, "", 0, 0);
        alike(s, "", 0, 0);
        alike(s, "abc", 0, 0);
        alike(s, "abc", 3, 0);
        alike(s, "abcd", 3, 0);
        alike(s, "abc", 3, 0);
        alike(s, "", 0, 0);
        alike(s, "abc", 0, 0);
        alike(s, "xyz", 0, 0);
        Sheet.says("Returns how many characters, behind those, both have alike at the end.");
        alike(s, "ayz", 0, 2);
        alike(s, "z", 0, 1);
        alike(s, "ayz", 0, 1);
        alike(s, "axz", 1, 1);
        alike(s, "axyz", 2, 1);
        alike(s, "aaaa", 1, 0);
        // what is alike at the beginning does not count again at the end
        alike(s, "aa", 2, 0);
        alike(s, "aaa", 2, 0);
        alike(s, "abaa", 1, 2);
        alike(s, "aba", 3, 0);
        alike(s, "ababa", 3, 0);
        alike(s, "aba", 3, 0);
        alike(s, "abxaba", 2, 1);
        alike(s, "aba", 2, 1);
        Sheet.says("and that of the rendering before it");
        s.fails(1, TemplateQuarry.NOTHING);
        Sheet.due("alike with no output", s.x.alike(), 0);
        Sheet.due("alikeAtEnd with no output", s.x.alikeAtEnd(), 0);
        alike(s, "aba", 0, 0);
        Sheet.throwsDue("no such template", IndexOutOfBoundsException.class, () -> s.x.render(10));
        alike(s, "abb", 2, 0);
        // only the characters count, and not where they come from
        s.text('t', "bb");
        s.renders(2, "abb");
        Sheet.due("alike", s.x.alike(), 3);
        String full = "0123456789".repeat(30);
        s.text('t', full.substring(0, 30)).set(3, "{%f((t+t)+(t+t))}{%f(f+(t+t))}{=f}{=t}{=t}{=t}{=t}");
        s.renders(3, full);
        s.renders(3, full);
        Sheet.due("alike of what is full", s.x.alike(), 300);
        Sheet.due("alikeAtEnd", s.x.alikeAtEnd(), 0);
        s.set(4, "x{%f((t+t)+(t+t))}{%f(f+(t+t))}{=f}{=t}{=t}{=t}{='123456789'}");
        Sheet.due("length", s.x.render(4), 280);
        Sheet.due("alike", s.x.alike(), 0);
        Sheet.due("alikeAtEnd", s.x.alikeAtEnd(), 9);
        s.renders(3, full);
        Sheet.due("alikeAtEnd", s.x.alikeAtEnd(), 9);
        s.set(4, "x{=t}{%f((t+t)+(t+t))}{%f(f+(t+t))}{=f}{=t}{=t}");
        Sheet.due("length", s.x.render(4), 271);
        Sheet.due("alikeAtEnd", s.x.alikeAtEnd(), 270);
    }
}
