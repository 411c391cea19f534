/** Promises 13 to 17: budgets, rendering, its costs, kept fragments. */
public final class RenderingTest {
    public static void main(String[] args) {
        budgets();
        costs();
        choicesAndLoops();
        scopes();
        tries();
        trims();
        lines();
        ups();
        includes();
        macros();
        parameters();
        callersBodies();
        depths();
        full();
        fragments();
        readsOfFragments();
        fragmentsWithin();
        fragmentsThatGo();
        Sheet.end();
    }

    private static void budgets() {
        Sheet s = new Sheet();
        for (int n : new int[] {0, -1, 2001, Integer.MIN_VALUE, Integer.MAX_VALUE}) {
            Sheet.throwsDue("budget " + n, IllegalArgumentException.class, () -> s.x.budget(n));
        }
        Sheet.due("budget", s.x.budget(1), 1000);
        Sheet.due("budget", s.x.budget(2000), 1);
        Sheet.due("budget", s.x.budget(3), 2000);
        Sheet.throwsDue("no template", IndexOutOfBoundsException.class, () -> s.x.render(10));
        Sheet.throwsDue("no template", IndexOutOfBoundsException.class, () -> s.x.render(-1));
        s.set(0, "abc").set(1, "abcd").set(2, "");
        s.renders(0, "abc");
        Sheet.due("spent", s.x.spent(), 3);
        s.fails(1, TemplateQuarry.STEPS);
        Sheet.due("what is not paid is not spent", s.x.spent(), 3);
        s.renders(2, "");
        Sheet.due("spent", s.x.spent(), 0);
        Sheet.throwsDue("no template", IndexOutOfBoundsException.class, () -> s.x.render(10));
        Sheet.due("spent stays", s.x.spent(), 0);
        // no try helps against STEPS
        s.x.budget(4);
        s.set(0, "{+}abcd{:}x{;}");
        s.fails(0, TemplateQuarry.STEPS);
        Sheet.due("spent", s.x.spent(), 4);
    }

    private static void spends(Sheet s, String text, int want) {
        s.set(9, text);
        s.x.render(9);
        Sheet.due("spent by " + text, s.x.spent(), want);
    }

    private static void costs() {
        Sheet s = new Sheet();
        s.list('l', "1", "2", "3").set(0, "a");
        spends(s, "{=1}{?1}a{:}b{;}{%a1}{-}{~}", 6);
        spends(s, "{$1}abc{;}", 0);
        spends(s, "{$1}abc{;}{!1}{&1}xyz{;}", 8);
        spends(s, "{$1}{~}{;}{&1}xyz{;}", 5);
        spends(s, "{#1}ab{;}", 3);
        spends(s, "{@0}", 2);
        spends(s, "{<0}xyz", 1);
        spends(s, "{*al}{;}", 4);
        spends(s, "{*al}x{=a}{;}", 10);
        spends(s, "{*ae}x{:}yz{;}", 1);
        s.list('e');
        spends(s, "{*ae}x{:}yz{;}", 3);
        spends(s, "{-}  a", 4);
        spends(s, "{t01}{k1}ab{;}", 4);
        spends(s, "{+}ab{=z}c{:}d{;}", 5);
        spends(s, "{=z}abc", 1);
        spends(s, "{+}{=z}{:}{;}{^}abc", 3);
        // the round is paid ahead of its body
        s.x.budget(4);
        s.fails("{*al}x{;}", TemplateQuarry.STEPS);
        Sheet.due("spent", s.x.spent(), 4);
        s.x.budget(3);
        s.fails("{*al}x{;}", TemplateQuarry.STEPS);
        Sheet.due("spent", s.x.spent(), 3);
        s.x.budget(1);
        s.fails("a{=z}", TemplateQuarry.STEPS);
        s.fails("{=z}", TemplateQuarry.NOTHING);
    }

    private static void choicesAndLoops() {
        Sheet s = new Sheet();
        s.number('a', 1).number('b', 0).list('l', "1", "x<", "3").list('e').text('t', "ab");
        s.puts("{?a}x{;}{?b}y{;}{?a}x{:}y{;}{?b}x{:}y{;}", "xxy");
        s.puts("{*il}[{=i}]{;}", "[1][x&l;][3]");
        s.puts("{*il}x{:}none{;}{*ie}x{:}none{;}{*ie}x{;}", "xxxnone");
        s.puts("{*il}{*jl}{?(i=j)}{=j}{:}.{;}{;}{;}", "1...x&l;...3");
        for (String e : new String[] {"a", "t", "z", "l.0"}) s.fails("{*i" + e + "}x{;}", TemplateQuarry.TYPE);
        s.fails("{?z.0}{;}", TemplateQuarry.TYPE);
        // each round has a scope of its own
        s.puts("{*il}{=(x?'-')}{%xi}{;}{=(x?'-')}", "----");
    }

    private static void scopes() {
        Sheet s = new Sheet();
        s.number('a', 1).list('l', "5");
        s.puts("{=a}{%a2}{=a}{?1}{%a3}{;}{=a}", "123");
        s.puts("{*al}{=a}{%a6}{=a}{;}{=a}", "561");
        s.puts("{%bz}{=b|d8}{%a'x'}{=a}", "8x");
        // a scope that has a variable as nothing has it
        s.puts("{%az}{=a|d8}", "8");
        s.puts("{#1}{%a2}{=a}{;}{=a}{k1}{%a3}{=a}{;}{=a}", "2131");
        s.puts("{+}{%a2}{=a}{:}{;}{=a}{+}{=z}{:}{%a4}{;}{=a}", "214");
        s.list('e');
        s.puts("{*ie}{:}{%a4}{;}{=a}", "4");
        s.puts("{=a}", "1");
        s.set(0, "{=a}{%a7}{=a}");
        s.puts("{%a2}{@0}{=a}", "272");
        s.puts("{%xl}{=x|l}{*ix}{=i}{;}", "15");
        s.puts("{%x'a'}{%y(x+'b')}{%x(y+x)}{=x}{=y}", "abaab");
    }

    private static void tries() {
        Sheet s = new Sheet();
        s.puts("a{+}b{=z}c{:}d{;}e", "ade");
        s.puts("a{+}b{:}d{;}e", "abe");
        s.puts("{+}a{+}b{=z}{:}c{=z}{;}d{:}e{;}", "e");
        s.puts("{+}a{+}b{=z}{:}c{;}d{:}e{;}", "acd");
        s.fails("{+}{=z}{:}{=1}{=z.1}{;}", TemplateQuarry.TYPE);
        s.set(8, "{<8}");
        s.puts("{+}{!1}{:}m{;}{+}{^}{:}b{;}{+}{@8}{:}d{;}", "mbd");
        // what a trim took off comes back, and its wait goes
        s.puts("a  {+}{-}{=z}{:}{;} b", "a   b");
        s.puts("a  {+}{-}b  {-}c{=z}{:}{;} b", "a   b");
        s.puts("a  {+}{-}{+}b{=z}{:}{=z}{;}{:}{;} b", "a   b");
        s.puts("a  {-}{+}x{=z}{:} {;} b", "ab");
        s.puts("a {+}{-}{:}{;} b", "ab");
        // the source of a blank that comes back is the old one
        s.set(0, "a  {+}{-}b{=z}{:}{;}c");
        s.renders(0, "a  c");
        for (int i = 0; i < 3; i++) Sheet.due("source", s.x.source(i), i);
        // a scope of the try is gone when its second body is rendered
        s.puts("{%a1}{+}{%a2}{=z}{:}{=a}{;}", "1");
        // what is open goes back as well
        s.set(0, "{#1}{+}{#1}{;}{:}x{;}{;}");
        s.set(1, "{*al}{+}{@2}{:}.{;}{;}").set(2, "{@3}").set(3, "{=z}");
        s.list('l', "1", "2", "3", "4", "5", "6", "7", "8");
        s.renders(1, "........");
    }

    private static void trims() {
        Sheet s = new Sheet();
        s.text('b', " ").text('e', "").number('n', 1).text('t', "<").message(0, " #", "");
        s.puts("a  {-}  b", "ab");
        s.puts(" {-} b", "b");
        s.puts("a{-}{-}  {=n} b", "a1 b");
        s.puts("a{-} {=e} {=''} b", "ab");
        s.puts("a{-} {=b} b", "a  b");
        s.puts("a{-} {=' '} b", "a  b");
        s.puts("a{-} {t01} b", "a 1 b");
        s.puts("a {=b} {-}b", "a  b");
        s.puts("a{=' '}{-}b", "a b");
        s.puts("a {t01} {-}b", "a  1b");
        // a text of which none is put out does not end the wait
        s.puts("<{-} {=t} >", "<>");
        s.puts("<a{-} {=t} >", "<a>");
        s.set(0, "  x  ").set(1, " {-} ").set(2, "  ");
        s.puts("a {@1} b", "ab");
        s.puts("a{-}{@2}{@0}{-} b", "axb");
        s.puts("a{-}{?1} {;}{#1} {;} b", "ab");
        // the contexts go back with the blanks
        s.puts("< {-}{=t}s>", "<s>");
        Sheet.due("context", s.x.context(2), TemplateQuarry.SCRIPT_TAG);
    }

    private static void lines() {
        Sheet s = new Sheet();
        s.set(0, "[{#1}a{;}{#2}b{;}]").set(1, "{<0}x{#1}c{;}y{#3}q{;}").set(2, "{<1}{#2}d{#3}e{;}{;}");
        s.renders(0, "[ab]");
        s.renders(1, "[cb]");
        s.renders(2, "[cde]");
        Sheet.due("source", s.x.source(2), 200 + 8);
        // of several blocks the first one counts, wherever it stands
        s.puts("{#1}a{;}{#1}b{;}", "aa");
        s.puts("{$1}{#1}m{;}{;}{#1}a{;}", "m");
        s.puts("{?0}{#1}n{;}{;}{#1}a{;}", "n");
        s.puts("{#1}x{#2}y{;}{;}{#2}z{;}", "xyy");
        s.set(0, "{<1}").set(1, "{<2}").set(2, "{<0}");
        s.fails(1, TemplateQuarry.DEPTH);
        Sheet.due("spent", s.x.spent(), 0);
        s.set(3, "{<3}a");
        s.fails(3, TemplateQuarry.DEPTH);
        s.puts("{<8}", "");
    }

    private static void ups() {
        Sheet s = new Sheet();
        s.set(0, "{#1}0{#2}1{;}{;}").set(1, "{<0}{#1}<{^}>{;}").set(2, "{<1}{#2}{^}{^}{;}{#1}[{^}{^}]{;}");
        s.renders(2, "[<011><011>]");
        s.fails("{^}", TemplateQuarry.BLOCK);
        s.fails("{#1}{^}{;}", TemplateQuarry.BLOCK);
        s.puts("{#1}{+}{^}{:}n{;}{;}", "n");
        // the innermost block counts, and templates without one are passed over
        s.set(0, "{#1}a{;}{#2}b{;}").set(1, "{<0}").set(2, "{<1}{#1}{#2}{^}{;}{^}{;}");
        s.renders(2, "bab");
        // an up in a macro goes by the block in which it is written
        s.set(0, "{#1}a{;}").set(1, "{<0}{#1}{$1}({^}){;}{!1}{!1}{;}");
        s.renders(1, "(a)(a)");
        // an up in a body of a caller is that of the place where the call stands
        s.set(0, "{#1}a{;}").set(1, "{<0}{$1}<{~}>{;}{#1}{&1}{^}{;}{;}");
        s.renders(1, "<a>");
    }

    private static void includes() {
        Sheet s = new Sheet();
        s.set(0, "{#1}a{;}{+}{!1}{:}no{;}").set(1, "{<0}{#1}b{;}").set(2, "{$1}m{;}{#1}c{;}{@1}{!1}");
        s.renders(2, "cbnom");
        s.set(3, "{@3}");
        s.fails(3, TemplateQuarry.DEPTH);
        Sheet.due("spent", s.x.spent(), 13);
        s.set(3, "{@4}").set(4, "{<4}");
        s.fails(3, TemplateQuarry.DEPTH);
        Sheet.due("spent", s.x.spent(), 1);
        s.set(3, "{@5}");
        s.renders(3, "");
    }

    private static void macros() {
        Sheet s = new Sheet();
        s.number('a', 9);
        s.puts("{!1}{$1}m{;}", "m");
        s.puts("{$1}a{;}{$1}b{;}{!1}", "a");
        s.puts("{?0}{#1}{$1}a{;}{;}{;}{!1}", "a");
        s.fails("{!1}", TemplateQuarry.MACRO);
        s.fails("{&1}x{;}", TemplateQuarry.MACRO);
        s.set(0, "{$1}p{;}{$2}q{#1}r{;}{;}{!1}{!2}").set(1, "{<0}{$1}c{;}{#1}d{;}");
        s.renders(0, "pqr");
        s.renders(1, "cqd");
        // a macro sees its parameters and the data, and nothing else
        s.puts("{%a1}{%b2}{$1c}{=a}{=b|d'-'}{=c}{;}{!1b}", "9-2");
        s.puts("{$1a}{%a(a+1)}{=a}{;}{!1a}{!1a}{=a}", "10109");
        s.puts("{$1n}{=n}{?n}{!1(n-1)}{;}{;}{!13}", "3210");
    }

    private static void parameters() {
        Sheet s = new Sheet();
        s.number('a', 9).number('b', 8).set(0, "{$1abc}[{=a|d'-'}{=b|d'-'}{=c|d'-'}]{;}");
        String[][] some = {{"{!1}", "[---]"}, {"{!11}", "[1--]"}, {"{!11,2,3}", "[123]"}, {"{!1c:1,2}", "[2-1]"},
            {"{!1b:a}", "[-9-]"}, {"{!1c:1,b:2,a:3}", "[321]"}, {"{!11,c:2,3}", "[132]"}, {"{!1z}", "[---]"}};
        for (String[] one : some) {
            s.set(0, "{$1abc}[{=a|d'-'}{=b|d'-'}{=c|d'-'}]{;}" + one[0]);
            s.renders(0, one[1]);
        }
        // no such parameter, or it has got one already
        s.fails("{$1a}{;}{!11,2}", TemplateQuarry.MACRO);
        s.fails("{$1}{;}{!11}", TemplateQuarry.MACRO);
        s.fails("{$1a}{;}{!1b:1}", TemplateQuarry.MACRO);
        s.fails("{$1ab}{;}{!1a:1,2}", TemplateQuarry.MACRO);
        s.fails("{$1ab}{;}{!11,a:2}", TemplateQuarry.MACRO);
        s.fails("{$1ab}{;}{!1a:1,a:2}", TemplateQuarry.MACRO);
        s.puts("{$1ab}{=b}{;}{!1b:1,2}", "1");
        // an argument is found ahead of its parameter
        s.fails("{$1a}{;}{!1b:z.1}", TemplateQuarry.TYPE);
        s.fails("{$1a}{;}{!1b:1,z.1}", TemplateQuarry.MACRO);
        // defaults are found in the scope of the macro, by their order
        s.puts("{$1x=1y=(x+1)z=y}{=x}{=y}{=z}{;}{!1}{!15}{!1y:5}", "122566155");
        s.puts("{%a1}{$1x=a}{=x}{;}{!1}", "9");
        s.puts("{$1a=bb=2}{=a}{=b}{;}{!1}{!1b:3}", "8233");
        s.puts("{$1a=a}{=a}{;}{!1}", "9");
        s.puts("{$1ab=a}{=b|d'-'}{;}{!1}", "-");
        s.fails("{$1x=z.1}{;}{!1}", TemplateQuarry.TYPE);
        s.puts("{$1x=z.1}{=x}{;}{!11}", "1");
    }

    private static void callersBodies() {
        new Sheet().puts("{$1x=1y=(x+1)z=y}{=x}{=y}{=z}{;}{!1}", "122");
        Sheet s = new Sheet();
        s.number('a', 9);
        s.puts("{$1}<{~}{~}>{;}{&1}x{;}", "<xx>");
        s.puts("{$1}[{~}]{;}{!1}{~}", "[]");
        s.puts("{$1}[{~}]{;}{$2}({&1}{~}{;}){;}{&2}x{;}", "([x])");
        s.puts("{$1}[{~}]{;}{$2}({!1}){;}{&2}x{;}", "([])");
        // it sees the scopes where the call stands, not those of the macro
        s.puts("{%b1}{$1b}{%c3}{~}{;}{&12}{=b}{=c|d'-'}{;}", "1-");
        s.puts("{$1}{~}{=a}{;}{&1}{%a1}{=a}{;}{=a}", "199");
        s.puts("{%b1}{$1}{~}{~}{;}{&1}{=b}{%b(b+1)}{=b}{;}{=b}", "12121");
        // blocks within the macro still have it, what it includes has not
        s.puts("{$1}{#1}{~}{;}{?1}{~}{;}{+}{~}{:}{;}{k1}{~}{;}{;}{&1}x{;}", "xxxx");
        s.set(0, "[{~}{$1}({~}){;}{&1}y{;}]");
        s.puts("{$1}{@0}{;}{&1}x{;}", "[(y)]");
        s.set(0, "{#1}a{;}{$1}{~}{;}{#2}{;}").set(1, "{<0}{$2}{@2}{;}{#2}{&1}{#1}b{;}{;}{;}");
        s.renders(1, "bb");
    }

    private static void depths() {
        Sheet s = new Sheet();
        String[] opening = {"{#1}{#1}{;}{;}", "{@9}", "{$1}{!1}{;}{!1}", "{$1}{&1}{;}{;}{&1}{;}"};
        for (String text : opening) {
            s.fails(text, TemplateQuarry.DEPTH);
            Sheet.due("spent by " + text, s.x.spent(), 13);
        }
        // calls and bodies of calls are counted both
        s.fails("{$1}{~}{;}{$2}{&1}{!2}{;}{;}{!2}", TemplateQuarry.DEPTH);
        Sheet.due("spent", s.x.spent(), 13);
        s.fails("{k1}{@9}{;}", TemplateQuarry.DEPTH);
        Sheet.due("spent", s.x.spent(), 13);
        s.set(0, "{#1}{^}{;}").set(1, "{<0}{#1}{@1}{;}");
        s.fails(1, TemplateQuarry.DEPTH);
        Sheet.due("spent", s.x.spent(), 13);
        s.set(0, "{#1}{@1}{;}").set(1, "{<0}{#1}{^}{;}");
        s.fails(1, TemplateQuarry.DEPTH);
        Sheet.due("spent", s.x.spent(), 13);
        // choices, loops and tries are not counted
        s.set(0, "{?n}{%n(n-1)}{?1}{?1}{*al}{+}{@0}{:}x{;}{;}{;}{;}{;}").number('n', 12).list('l', "1");
        s.renders(0, "");
        s.number('n', 13);
        s.renders(0, "x");
        // twelve are fine, and arguments are found ahead of that
        s.puts("{$1n}{=n}{?n}{!1(n-1)}{;}{;}{!1(9+2)}", "11109876543210");
        s.fails("{$1n}{=n}{?n}{!1(n-1)}{;}{;}{!1(9+3)}", TemplateQuarry.DEPTH);
        s.fails("{$1n}{?(n=0)}{!1'a'|n,2}{:}{!1(n-1)}{;}{;}{!1(9+2)}", TemplateQuarry.MACRO);
        s.fails("{$1n}{?(n=0)}{=z}{:}{!1(n-1)}{;}{;}{!1(9+2)}", TemplateQuarry.NOTHING);
        // what stands nowhere is told ahead of the depth
        s.set(1, "{?n}{%n(n-1)}{@1}{:}{#1}{^}{;}{;}").number('n', 11);
        s.fails(1, TemplateQuarry.BLOCK);
        s.number('n', 12);
        s.fails(1, TemplateQuarry.DEPTH);
        // what is closed is open no more
        s.list('l', "1", "2", "3", "4", "5", "6", "7", "8");
        s.puts("{*al}{*bl}{#1}x{;}{;}{;}", "x".repeat(64));
    }

    private static void full() {
        Sheet s = new Sheet();
        s.list('l', "1", "2", "3", "4", "5", "6", "7", "8").text('t', "0123456789".repeat(4));
        s.set(0, "{*al}{=t}{;}");
        s.fails(0, TemplateQuarry.FULL);
        s.number('n', 0);
        s.text('u', "0123456789".repeat(2)).set(0, "{%m(t+t)}{=m}{=m}{=m}{=t}{=u}").set(1, "{@0}x").set(2, "{@0} {-}");
        s.renders(0, "0123456789".repeat(30));
        s.fails(1, TemplateQuarry.FULL);
        s.fails(2, TemplateQuarry.FULL);
        s.set(3, "{@0}{-} {+}x{:}{;}");
        s.renders(3, "0123456789".repeat(30));
        s.set(3, "{+}{@0}{=t}{:}y{;}");
        s.renders(3, "y");
        // a kept fragment, and a message too
        s.set(4, "{k1}{=t}{=t}{;}").set(5, "{@4}{@4}{@4}{=t}{=t}{=u}x");
        s.fails(5, TemplateQuarry.FULL);
        s.set(5, "{@4}{@4}{@4}{@4}");
        s.fails(5, TemplateQuarry.FULL);
        s.message(0, "", "##########").set(5, "{t0n}{@0}").number('n', 1000000000);
        s.fails(5, TemplateQuarry.FULL);
    }

    private static void fragments() {
        Sheet s = new Sheet();
        s.number('a', 1).set(0, "<b>{k1}x{=a}y{;}</b>");
        s.renders(0, "<b>x1y</b>");
        Sheet.due("hits", s.x.hits(), 0);
        Sheet.due("kept", s.x.kept(), 1);
        Sheet.due("spent", s.x.spent(), 11);
        s.renders(0, "<b>x1y</b>");
        Sheet.due("hits", s.x.hits(), 1);
        Sheet.due("spent", s.x.spent(), 8);
        for (int i = 3; i < 6; i++) Sheet.due("source", s.x.source(i), i == 3 ? 7 : i == 4 ? 8 : 12);
        s.number('a', 2);
        s.renders(0, "<b>x2y</b>");
        Sheet.due("hits", s.x.hits(), 0);
        s.number('a', 2);
        s.renders(0, "<b>x2y</b>");
        Sheet.due("hits", s.x.hits(), 1);
        s.text('a', "2");
        s.renders(0, "<b>x2y</b>");
        Sheet.due("hits, of another kind", s.x.hits(), 0);
        // one digit keeps one fragment, that of the latest tag
        s.set(0, "{k1}a{;}{k1}b{;}");
        s.renders(0, "ab");
        Sheet.due("kept", s.x.kept(), 1);
        s.renders(0, "ab");
        Sheet.due("hits", s.x.hits(), 0);
        s.set(0, "{k1}a{;}{k2}b{;}{k0}c{;}");
        s.renders(0, "abc");
        Sheet.due("kept", s.x.kept(), 3);
        s.renders(0, "abc");
        Sheet.due("hits", s.x.hits(), 3);
        // the context and the wait with which it began
        s.set(1, "{k1}{=t}<{;}").text('t', "&");
        s.set(2, "{@1}{@1}").set(3, "x{-}{@1}").set(4, "x {k1} {;}{-}{k1} {;}y");
        s.renders(2, "&a;<<");
        Sheet.due("hits", s.x.hits(), 0);
        s.renders(1, "&a;<");
        s.renders(1, "&a;<");
        Sheet.due("hits", s.x.hits(), 1);
        s.renders(3, "x&a;<");
        Sheet.due("hits with a wait", s.x.hits(), 0);
        s.renders(3, "x&a;<");
        Sheet.due("hits with a wait", s.x.hits(), 1);
        s.renders(4, "xy");
        // the same templates in the line
        s.set(0, "{k1}{#1}a{;}{;}").set(1, "{<0}").set(2, "{<0}{#1}b{;}");
        s.renders(0, "a");
        s.renders(1, "a");
        Sheet.due("hits in another line", s.x.hits(), 0);
        s.renders(2, "b");
        Sheet.due("hits in another line", s.x.hits(), 0);
        s.renders(2, "b");
        Sheet.due("hits", s.x.hits(), 1);
    }

    private static void hitsAgain(Sheet s, int template, int want) {
        s.x.render(template);
        Sheet.due("hits", s.x.hits(), want);
    }

    private static void readsOfFragments() {
        Sheet s = new Sheet();
        s.number('a', 1).number('b', 2).number('c', 0).list('l', "1", "2", "3", "2");
        // what was not read does not count; nothing that was read does
        s.set(0, "{k1}{=(a?b)}{=(c&b)}{=z|da}{;}");
        hitsAgain(s, 0, 0);
        hitsAgain(s, 0, 1);
        s.number('b', 3);
        hitsAgain(s, 0, 1);
        s.number('c', 1);
        hitsAgain(s, 0, 0);
        hitsAgain(s, 0, 1);
        s.number('b', 4);
        hitsAgain(s, 0, 0);
        s.number('z', 4);
        hitsAgain(s, 0, 0);
        hitsAgain(s, 0, 1);
        s.x.clear('z');
        hitsAgain(s, 0, 0);
        // a list that grows, and back again
        s.set(0, "{k1}{=l|l}{;}");
        hitsAgain(s, 0, 0);
        hitsAgain(s, 0, 1);
        s.x.add('l', 2);
        hitsAgain(s, 0, 0);
        s.list('l', "1", "2", "3", "2", "2");
        hitsAgain(s, 0, 1);
        s.list('l', "1", "2", "2", "3");
        hitsAgain(s, 0, 0);
        // an item reads its list
        s.set(0, "{k1}{=l.0}{;}");
        hitsAgain(s, 0, 0);
        s.x.add('l', 2);
        hitsAgain(s, 0, 0);
        // by the scope in which the tag stands
        s.list('l', "1", "1", "2", "2", "1").set(0, "{*al}{k1}{=a}{;}{;}");
        s.renders(0, "11221");
        Sheet.due("hits", s.x.hits(), 2);
        // what is set within does not count
        s.set(0, "{k1}{%a5}{=a}{*bl}{=b}{;}{;}");
        hitsAgain(s, 0, 0);
        s.number('a', 77).number('b', 78);
        hitsAgain(s, 0, 1);
        // but what is read ahead of that does
        s.set(0, "{k1}{=a}{%a5}{=a}{;}");
        hitsAgain(s, 0, 0);
        s.number('a', 79);
        hitsAgain(s, 0, 0);
        // a macro looks in the data first
        s.set(0, "{$1}{=a}{;}{%ab}{k1}{!1}{;}");
        hitsAgain(s, 0, 0);
        s.number('b', 80);
        hitsAgain(s, 0, 1);
        s.number('a', 81);
        hitsAgain(s, 0, 0);
        s.set(0, "{$1}{=a}{;}{%ab}{k1}{=a}{!1}{;}");
        hitsAgain(s, 0, 0);
        s.number('b', 82);
        hitsAgain(s, 0, 0);
        hitsAgain(s, 0, 1);
        s.number('a', 83);
        hitsAgain(s, 0, 0);
        // an argument is read where the call stands, a default in the macro
        s.set(0, "{$1x=a}{=x}{;}{%ab}{k1}{!1}{;}");
        hitsAgain(s, 0, 0);
        s.number('b', 84);
        hitsAgain(s, 0, 1);
        s.set(0, "{$1x}{=x}{;}{%ab}{k1}{!1a}{;}");
        hitsAgain(s, 0, 0);
        s.number('a', 85);
        hitsAgain(s, 0, 1);
        s.number('b', 86);
        hitsAgain(s, 0, 0);
        // safe just as then
        s.text('t', "x").set(0, "{?c}{%x't'}{:}{%x't'|r}{;}{k1}{=x}{;}").set(1, "{%x'x'}{?c}{%xt}{;}{k1}{=(x='x')}{;}");
        s.number('c', 0);
        hitsAgain(s, 1, 0);
        hitsAgain(s, 1, 1);
        s.number('c', 1);
        hitsAgain(s, 1, 0);
    }

    private static void fragmentsWithin() {
        Sheet s = new Sheet();
        s.number('a', 1).number('b', 2);
        s.set(0, "{k1}[{k2}{=a}{;}{=b}]{;}");
        s.renders(0, "[12]");
        Sheet.due("kept", s.x.kept(), 2);
        hitsAgain(s, 0, 1);
        s.number('b', 3);
        s.renders(0, "[13]");
        Sheet.due("hits", s.x.hits(), 1);
        // what the inner one had read, that was put out, counts as read by the outer one
        s.number('a', 4);
        s.renders(0, "[43]");
        Sheet.due("hits", s.x.hits(), 0);
        // but not what is set between them
        s.set(0, "{k1}{%a5}{k2}{=a}{;}{=b}{;}");
        hitsAgain(s, 0, 0);
        s.number('b', 5);
        hitsAgain(s, 0, 1);
        s.number('a', 6);
        hitsAgain(s, 0, 1);
        s.set(0, "{$1}{=a}{;}{k1}{k2}{!1}{;}{=b}{;}");
        hitsAgain(s, 0, 0);
        s.number('b', 7);
        hitsAgain(s, 0, 1);
        s.number('a', 7);
        hitsAgain(s, 0, 0);
        // not kept with a trim or a body of the caller in it, but what stands beside them is
        s.set(0, "{k1}a{-}{k2}b{;}{;}");
        s.renders(0, "ab");
        Sheet.due("kept", s.x.kept(), 1);
        s.set(0, "{$1}{~}{;}{k1}{&1}x{k2}y{;}{;}{;}");
        s.renders(0, "xy");
        Sheet.due("kept", s.x.kept(), 1);
        s.set(0, "{$1}{~}{;}{k1}{!1}{;}{k2}{+}{-}{=z}{:}{;}{;}{k3}{?0}{-}{;}{;}");
        s.renders(0, "");
        Sheet.due("kept", s.x.kept(), 1);
        // what is not kept leaves the old one
        s.set(0, "{k1}{=a}{?c}{-}{;}{;}").number('c', 0);
        hitsAgain(s, 0, 0);
        s.number('c', 1);
        hitsAgain(s, 0, 0);
        Sheet.due("kept", s.x.kept(), 1);
        s.number('c', 0);
        hitsAgain(s, 0, 1);
    }

    private static void fragmentsThatGo() {
        Sheet s = new Sheet();
        s.set(0, "{k1}a{;}{k2}b{;}").set(1, "{+}{k3}x{;}{=z}{:}y{;}{=z}");
        s.renders(0, "ab");
        Sheet.due("kept", s.x.kept(), 2);
        s.type("{;}");
        Sheet.throwsDue("not a template", IllegalArgumentException.class, () -> s.x.template(5));
        Sheet.throwsDue("not a form", IllegalArgumentException.class, () -> s.x.message(5, 5));
        Sheet.due("kept", s.x.kept(), 2);
        s.x.wipe();
        // what is kept stays kept, whatever fails later
        s.fails(1, TemplateQuarry.NOTHING);
        Sheet.due("kept", s.x.kept(), 3);
        s.fails(1, TemplateQuarry.NOTHING);
        Sheet.due("hits, taken back", s.x.hits(), 1);
        // but it must have come to its end
        s.set(2, "{+}{k4}x{=z}{;}{:}{;}");
        Sheet.due("kept by a template that is set", s.x.kept(), 0);
        s.renders(2, "");
        Sheet.due("kept", s.x.kept(), 0);
        s.renders(0, "ab");
        Sheet.due("kept", s.x.kept(), 2);
        s.x.message(3, 1);
        Sheet.due("kept by a message that is set", s.x.kept(), 0);
        s.renders(0, "ab");
        Sheet.due("hits", s.x.hits(), 0);
        // a kept one opens nothing
        s.set(0, "{?n}{%n(n-1)}{@0}{:}{k1}x{;}{;}").number('n', 12);
        s.fails(0, TemplateQuarry.DEPTH);
        s.number('n', 11);
        s.renders(0, "x");
        s.number('n', 12);
        s.renders(0, "x");
    }
}
