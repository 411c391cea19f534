/** Promises 18 to 23: the output, by its characters, their sources and contexts, and beside the one before. */
public final class OutputTest {
    public static void main(String[] args) {
        escaping();
        contexts();
        sources();
        places();
        alike();
        Sheet.end();
    }

    private static void escaping() {
        Sheet s = new Sheet();
        s.text('t', "<>&\"'\\aZ0 ~-").text('q', "q\"s>'").number('n', -5);
        s.puts("{=t}", "&l;&g;&a;&q;'\\aZ0 ~-");
        s.puts("<{=t}", "<");
        s.puts("<b {=t}", "<b aZ0");
        s.puts("<b \"{=t}", "<b \"&l;&g;&a;&q;'\\aZ0 ~-");
        s.puts("<s {=t}", "<s aZ0");
        s.puts("<s \"{=t}", "<s \"&l;&g;&a;&q;'\\aZ0 ~-");
        s.puts("<s>{=t}", "<s>aZ0");
        s.puts("<s>'{=t}", "<s>'_>&\"__aZ0 ~-");
        s.text('b', "@AZ[`az{/09:").puts("<b {=b}", "<b AZaz09");
        // numbers and safe texts are put out as they are, and lead on
        s.puts("<{=n}{=q}", "<-5qs");
        s.puts("<{=q|r}", "<q\"s>'");
        Sheet.due("context", s.x.context(s.shown().length()), TemplateQuarry.QUOTED);
        s.puts("<{='s>'}{=t}{=''}{='\"'}", "<s>aZ0\"");
        s.message(0, "<#\"", "<s#>");
        s.puts("{t01}{t02}", "<1\"<s2>");
        s.text('s', "s");
        s.puts("<{=s}{='s'}>", "<s>");
        Sheet.due("context", s.x.context(3), TemplateQuarry.SCRIPT);
    }

    private static void contexts() {
        Sheet s = new Sheet();
        String[] texts = {"a<>b", "<a>", "<\"\">", "<s>", "<s\"\"><", "<s>''", "<b\">\"s>", "<b<s'>'", "<s'<\"<\"'>\"'<\"'<", "< s>", "<s>'>\"'<>"};
        int[][] ways = {{0, 0, 1, 0, 0}, {0, 1, 2, 0}, {0, 1, 2, 3, 3}, {0, 1, 4, 6}, {0, 1, 4, 5, 4, 6, 1},
            {0, 1, 4, 6, 7, 6}, {0, 1, 2, 3, 3, 2, 2, 0}, {0, 1, 2, 2, 2, 2, 0, 0}, {0, 1, 4, 4, 4, 5, 5, 4, 4, 6, 6, 7, 7, 7, 6, 1},
            {0, 1, 2, 2, 0}, {0, 1, 4, 6, 7, 7, 7, 6, 1, 0}};
        for (int i = 0; i < texts.length; i++) {
            s.puts(texts[i], texts[i]);
            for (int k = 0; k < ways[i].length; k++) Sheet.due("context " + k + " of " + texts[i], s.x.context(k), ways[i][k]);
        }
        s.text('t', "<").set(0, "{=t}<b \"{=t}\"").set(1, "a < {-}>");
        s.renders(0, "&l;<b \"&l;\"");
        int[] way = {0, 0, 0, 0, 1, 2, 2, 3, 3, 3, 3, 2};
        for (int k = 0; k < way.length; k++) Sheet.due("context", s.x.context(k), way[k]);
        s.renders(1, "a <>");
        Sheet.due("context behind a trim", s.x.context(3), TemplateQuarry.OPENED);
        Sheet.due("context at the end", s.x.context(4), TemplateQuarry.TEXT);
    }

    private static void sources() {
        Sheet s = new Sheet();
        s.number('n', 12).text('t', "<").message(0, "", "m#");
        s.set(7, "{$1}m{=n}{;}x{#1}y{;}").set(8, "{<7}{#1}{t0n}{^}{!1}{=t}{;}").set(9, "{@8}{k1}z{;}{=n}");
        s.renders(9, "xm12ym12&l;z12");
        int[] want = {712, 808, 808, 808, 717, 704, 705, 705, 820, 820, 820, 908, 912, 912};
        s.renders(8, "xm12ym12&l;");
        s.x.render(9);
        for (int pass = 0; pass < 2; pass++) {
            for (int i = 0; i < want.length; i++) Sheet.due("source " + i, s.x.source(i), want[i]);
            s.x.render(9);
            Sheet.due("hits", s.x.hits(), 1);
        }
    }

    private static void places() {
        Sheet s = new Sheet();
        s.text('t', "<a>&\"'\\ 9").set(0, "<b>{=t}<s>{=t}'{=t}'<i {=t} q=\"{=t}{=1}{='<'}");
        int n = s.x.render(0);
        String shown = s.shown();
        Sheet.due("length", shown.length(), n);
        for (int i = 0; i < n; i++) {
            Sheet.due("out " + i, s.x.out(i), shown.charAt(i));
            Sheet.due("outAnew " + i, s.x.outAnew(i), shown.charAt(i));
        }
        s.x.context(n);
        for (int i : new int[] {-1, n, n + 1, 300, Integer.MAX_VALUE, Integer.MIN_VALUE}) {
            Sheet.throwsDue("out " + i, IndexOutOfBoundsException.class, () -> s.x.out(i));
            Sheet.throwsDue("outAnew " + i, IndexOutOfBoundsException.class, () -> s.x.outAnew(i));
            Sheet.throwsDue("source " + i, IndexOutOfBoundsException.class, () -> s.x.source(i));
            if (i != n) Sheet.throwsDue("context " + i, IndexOutOfBoundsException.class, () -> s.x.context(i));
        }
        s.set(0, "ab{=z}");
        s.fails(0, TemplateQuarry.NOTHING);
        Sheet.throwsDue("no output", IndexOutOfBoundsException.class, () -> s.x.source(0));
        Sheet.due("context", s.x.context(0), TemplateQuarry.TEXT);
    }

    private static void alike(Sheet s, int template, int ahead, int behind) {
        s.x.render(template);
        Sheet.due("alike of " + template, s.x.alike(), ahead);
        Sheet.due("alikeAtEnd of " + template, s.x.alikeAtEnd(), behind);
    }

    private static void alike() {
        Sheet s = new Sheet();
        s.set(0, "abcabc").set(1, "abc").set(2, "xbcabc").set(3, "{=z}").set(4, "abxxbc").set(5, "aaaa").set(6, "aaa");
        alike(s, 0, 0, 0);
        alike(s, 0, 6, 0);
        alike(s, 1, 3, 0);
        alike(s, 0, 3, 0);
        alike(s, 2, 0, 5);
        alike(s, 1, 0, 3);
        alike(s, 3, 0, 0);
        alike(s, 1, 0, 0);
        alike(s, 0, 3, 0);
        alike(s, 4, 2, 2);
        alike(s, 5, 1, 0);
        alike(s, 6, 3, 0);
        alike(s, 5, 3, 0);
        Sheet.throwsDue("no template", IndexOutOfBoundsException.class, () -> s.x.render(11));
        Sheet.due("alike stays", s.x.alike(), 3);
    }
}
