/** Promises 13 to 17 and Rendering with its Costs: each sentence that names a boundary case, by itself. */
public final class EdgesOfRenderingTest {
    private static final String THIRTY = "abcdefghijklmnopqrstuvwxyzABCD";

    public static void main(String[] args) {
        lines();
        literals();
        sets();
        choices();
        loops();
        tries();
        blocks();
        ups();
        includes();
        macros();
        arguments();
        defaults();
        callersBodies();
        trims();
        messages();
        failures();
        Sheet.end();
    }

    private static void lines() {
        Sheet s = new Sheet();
        Sheet.says("but if it begins with {<d}, the body of the template d instead, and so on; the templates met so are its line, itself first.");
        s.set(0, "{<1}no{#1}a{;}").set(1, "{<2}no{#1}b{;}{#2}c{;}").set(2, "[{#1}{;}{#2}{;}{#3}d{;}]");
        s.renders(0, "[acd]");
        s.renders(1, "[bcd]");
        s.renders(2, "[d]");
        for (int t = 0; t < 9; t++) s.set(t, "{<" + (t + 1) + "}{#" + t + "}" + t + "{;}");
        s.set(9, "{#0}{;}{#1}{;}{#2}{;}{#3}{;}{#4}{;}{#5}{;}{#6}{;}{#7}{;}{#8}{;}.");
        s.renders(0, "012345678.");
        s.renders(8, "8.");
        s.set(9, "");
        s.renders(0, "");
        Sheet.due("{<d} costs no step", s.x.spent(), 0);
        Sheet.says("A template that would be met again: DEPTH.");
        s.set(9, "{<0}");
        for (int t = 0; t <= 9; t++) s.fails(t, TemplateQuarry.DEPTH);
        Sheet.due("no step", s.x.spent(), 0);
        s.set(9, "{<9}");
        s.fails(9, TemplateQuarry.DEPTH);
        s.fails(0, TemplateQuarry.DEPTH);
        s.set(9, "{<5}");
        s.fails(0, TemplateQuarry.DEPTH);
        s.set(9, "ok");
        s.renders(0, "ok");
    }

    private static void literals() {
        Sheet s = new Sheet();
        Sheet.says("A literal puts out its character; a blank that a trim still waits for is left out.");
        String all = "";
        for (char c = 32; c <= 126; c++) all += c == '{' || c == '}' ? "" : c;
        s.set(0, all.substring(0, 60)).set(1, all.substring(60));
        s.renders(0, all.substring(0, 60));
        s.renders(1, all.substring(60));
        s.puts("{-}   x   ", "x   ");
        Sheet.due("a blank that is left out costs its step", s.x.spent(), 8);
        s.puts("{-}   ", "");
        Sheet.due("spent", s.x.spent(), 4);
    }

    private static void sets() {
        Sheet s = new Sheet();
        s.number('a', 1);
        Sheet.says("outside of all scopes in one of the template that is rendered, which is there from the beginning");
        s.puts("{%a2}{=a}{#1}{=a}{;}", "22");
        s.set(0, "{%a2}{=a}").set(1, "{=a}");
        s.renders(0, "2");
        s.renders(1, "1");
        s.puts("{=a}{@0}{=a}", "121");
        Sheet.says("{%ve} sets the variable in the innermost scope");
        s.list('l', "7", "8");
        s.puts("{%a2}{#1}{%a3}{=a}{;}{=a}{+}{%a4}{=a}{:}{;}{=a}{k1}{%a5}{=a}{;}{=a}", "324252");
        s.puts("{%a2}{*bl}{=a}{%ab}{=a}{;}{=a}{$1}{%a6}{=a}{;}{!1}{=a}", "2728262");
        s.puts("{%a2}{?1}{%a3}{;}{=a}{?0}{:}{%a4}{;}{=a}", "34");
        s.puts("{%a2}{$1}{~}{=a}{;}{&1}{%a3}{=a}{;}{=a}", "312");
        s.puts("{%az}{=a|d9}{%a''}[{=a}]{%al}{=a|l}", "9[]2");
        // what was set in a scope that is closed is gone, and what is set behind it stands in the outer one
        s.puts("{%a1}{#1}{%b2}{;}{%c3}{=a}{=b|d'-'}{=c}", "1-3");
        s.puts("{%a1}{+}{%b2}{%c2}{=z}{:}{%c3}{;}{=a}{=b|d'-'}{=c}{%d4}{=d}", "1-34");
        s.puts("{$1b}{%c5}{;}{!12}{%a1}{=a}{=b|d'-'}{=c|d'-'}{*bl}{%a6}{;}{%d4}{=a}{=d}", "1--14");
        // what was set stays as it is, whatever is found later
        s.text('t', "b").puts("{%x(t+'1')}{%y(t+'2')}{?(t+'3')}{;}{=x}{=y}", "b1b2");
        s.puts("{%xt|u}{%y'z'|u}{?'q'|u}{;}{=x}{=y}{=t}", "BZb");
        s.puts("{%xl|j}{%y(x+'!')}{?(y+y)}{;}{=x}{=y}{%xy|u}{%y''}{=x}", "7,87,8!7,8!");
        s.puts("{$1xyz=(x+y)}{?(z+z)}{;}{=x}{=y}{=z}{;}{!1(t+'1'),(t+'2')}", "b1b2b1b2");
        // all the letters in one scope, and a text as long as may be
        s.set(2, "{%a1}{%b2}{%c3}{%d4}{%e5}{%f6}{%g7}{%h8}{%i9}{%j0}{%k1}{%l2}{%m3}{=m}{=a}");
        s.renders(2, "31");
    }

    private static void choices() {
        Sheet s = new Sheet();
        Sheet.says("{?e} renders its first body, if e is true, otherwise the second one, if there is one.");
        s.puts("{?1}a{:}b{;}{?0}a{:}b{;}{?1}a{;}{?0}a{;}{?1}{:}b{;}{?0}a{:}{;}", "aba");
        s.fails("{?(1+'')}{:}{;}", TemplateQuarry.TYPE);
    }

    private static void loops() {
        Sheet s = new Sheet();
        s.list('l', "1", "2", "3", "4", "5", "6", "7", "8").list('o', "<").list('e').text('t', "ab").number('n', 0);
        Sheet.says("{*ve} renders its first body for each item of a list, by their order, in a scope of its own with v as that item;");
        s.puts("{*al}{=a}{;}{*ao}{=a}{;}{*ae}{=a}{;}{=a|d'-'}", "12345678&l;-");
        s.puts("{*al}{=(b|d0<1)}{%ba}{;}{=b|d'-'}", "11111111-");
        s.puts("{*ll}{=l}{;}{=l|l}", "123456788");
        s.puts("{*al}{*ao}{;}{=a}{;}", "12345678");
        Sheet.says("without items the second one, if there is one; TYPE if e is no list.");
        s.puts("{*al}a{:}b{;}{*ae}a{:}b{;}{*ae}a{;}{*ao}{:}b{;}", "aaaaaaaab");
        for (String e : new String[] {"z", "n", "t", "''", "l.0", "l|j"}) {
            s.fails("{*a" + e + "}a{:}b{;}", TemplateQuarry.TYPE);
            s.fails("{*a" + e + "}a{;}", TemplateQuarry.TYPE);
        }
        s.puts("{*ae}{:}{%bl}{;}{=b|l}", "8");
    }

    private static void tries() {
        Sheet s = new Sheet();
        s.list('l', "1").text('f', THIRTY).number('m', Integer.MAX_VALUE);
        Sheet.says("{+}b{:}c{;} renders b in a scope of its own; if that fails, but for STEPS");
        String[] failing = {"{=z}", "{=l}", "{=l.1}", "{=(m+1)}", "{!7}", "{^}", "{@8}", "{=(((((f+f)+(f+f))+(f+f))+((f+f)+(f+f)))+'x')}"};
        s.set(8, "{<8}");
        for (String text : failing) s.puts("a{+}b" + text + "{:}c{;}d", "acd");
        s.set(0, "{%g((f+f)+f)}{=g}{=g}{=g}{=f}x");
        s.puts("a{+}b{@0}{:}c{;}d", "acd");
        s.puts("a{+}b{:}c{;}d", "abd");
        s.puts("a{+}{:}{;}d", "ad");
        s.x.budget(4);
        s.set(1, "a{+}bcd{:}e{;}");
        s.fails(1, TemplateQuarry.STEPS);
        Sheet.due("spent", s.x.spent(), 4);
        s.x.budget(5);
        s.renders(1, "abcd");
        // also if the second body would cost nothing
        s.x.budget(2);
        s.set(1, "{+}ab{:}{;}");
        s.fails(1, TemplateQuarry.STEPS);
        s.x.budget(3);
        s.renders(1, "ab");
        // the steps that were paid stay paid, and the second body has the others
        s.x.budget(5);
        s.set(1, "a{+}b{=z}{:}e{;}");
        s.renders(1, "ae");
        s.x.budget(4);
        s.fails(1, TemplateQuarry.STEPS);
        s.x.budget(2000);
        Sheet.says("the output and what trims wait for are as ahead of it, and c is rendered.");
        s.puts("a  {+}{-}x{=z}{:}{;} b", "a   b");
        s.puts("a  {+}{-}{=z}{:}{;} b", "a   b");
        s.puts("a  {-}{+}x{=z}{:} {;} b", "ab");
        s.puts("a {+}{-}{-} b {-}c {+}{-}{=z}{:}{=z}{;}{:}{;} d", "a  d");
        s.puts("{%a1}{+}{%a2}{=z}{:}{=a}{%a3}{;}{=a}", "13");
        s.puts("{+}{+}{=z}{:}{=l}{;}{:}x{;}", "x");
        s.fails("{+}{=z}{:}{=l.1}{;}x", TemplateQuarry.INDEX);
        s.puts("<{+}b\"{=z}{:}s{;}>", "<s>");
        Sheet.due("the context", s.x.context(3), TemplateQuarry.SCRIPT);
    }

    private static void blocks() {
        Sheet s = new Sheet();
        Sheet.says("{#d} renders, in a scope of its own, the first block d in the first template of the line, that has one;");
        s.puts("{#0}a{;}{#9}b{;}", "ab");
        s.set(0, "{#1}a{;}").set(1, "{<0}").set(2, "{<1}{#1}c{;}{#1}d{;}");
        s.renders(1, "a");
        s.renders(2, "c");
        s.puts("{%a1}{#1}{=a}{%a2}{=a}{;}{=a}", "121");
        Sheet.says("of several blocks likewise for what children replace");
        s.puts("{#1}a{;}{#1}b{;}{#1}c{;}", "aaa");
        s.puts("{?0}{#1}a{;}{;}{#1}b{;}", "a");
        s.puts("{?0}{:}{#1}a{;}{;}{#1}b{;}", "aa");
        s.puts("{$1}{#1}a{;}{;}{#1}b{;}", "a");
        s.puts("{#2}{#1}a{;}{;}{#1}b{;}", "aa");
        s.fails("{#1}{#1}b{;}{;}", TemplateQuarry.DEPTH);
    }

    private static void ups() {
        Sheet s = new Sheet();
        Sheet.says("the first block d of the next template of the line behind that in which it is written, that has one; BLOCK if there is none");
        s.set(0, "{#1}a{;}{#1}no{;}").set(1, "{<0}").set(2, "{<1}{#1}b{^}{;}").set(3, "{<2}{#1}c{^}{^}{;}");
        s.renders(2, "baba");
        s.renders(3, "cbabacbaba");
        s.puts("{<2}", "baba");
        s.fails("{#1}{^}{;}", TemplateQuarry.BLOCK);
        s.set(0, "{#1}a{^}{;}");
        s.fails(2, TemplateQuarry.BLOCK);
        s.set(0, "{#1}a{+}{^}{:}-{;}{;}");
        s.renders(2, "ba-");
        // in an include the line is its own
        s.set(4, "{#1}x{;}").set(5, "{<4}{#1}{@6}{;}").set(6, "{#1}{^}{;}");
        s.fails(5, TemplateQuarry.BLOCK);
        Sheet.says("or it stands in no block. If it stands in several blocks, the innermost one counts.");
        s.fails("{^}", TemplateQuarry.BLOCK);
        s.fails("{#1}a{;}{^}", TemplateQuarry.BLOCK);
        s.set(0, "{#1}a{;}{#2}b{;}");
        s.puts("{<0}{#1}{#2}{^}{;}{^}{;}", "bab");
        s.puts("{<0}{#1}{?1}{^}{:}{;}{+}{^}{:}{;}{k1}{^}{;}{;}", "aaab");
        s.puts("{<0}{#1}{$1}{^}{;}{!1}{;}{#2}{!1}{;}", "aa");
        s.puts("{<0}{#1}{$1}{~}{;}{&1}{^}{;}{;}", "ab");
        s.fails("{<0}{$1}{^}{;}{#1}{!1}{;}", TemplateQuarry.BLOCK);
        s.puts("{<0}{#1}{#9}{;}{^}{;}", "ab");
    }

    private static void includes() {
        Sheet s = new Sheet();
        Sheet.says("{@d} renders the template d, with a line of its own, in a scope of its own.");
        s.set(0, "[{#1}a{;}]").set(1, "{<0}{#1}b{;}").set(2, "{#1}c{;}{@1}{@0}{@9}").number('a', 1);
        s.renders(2, "c[b][a]");
        s.set(3, "{=a}{%a3}{=a}").set(4, "{%a2}{@3}{=a}");
        s.renders(4, "232");
        s.set(5, "{+}{!1}{:}-{;}").set(6, "{$1}m{;}{!1}{@5}{!1}");
        s.renders(6, "m-m");
        s.set(7, "{<7}").set(8, "{@7}");
        s.fails(8, TemplateQuarry.DEPTH);
        Sheet.due("spent", s.x.spent(), 1);
    }

    private static void macros() {
        Sheet s = new Sheet();
        s.number('a', 9);
        Sheet.says("A macro renders nothing where it stands.");
        s.puts("a{$1}b{;}c", "ac");
        Sheet.due("and costs nothing", s.x.spent(), 2);
        Sheet.says("finds the macro d in the first template of the line, from the rendered one of that line on, that has one; MACRO if none has.");
        s.set(0, "{$0}a{;}{$9}b{;}[{!0}{!9}]").set(1, "{<0}{$9}c{;}").set(2, "{<1}{$0}d{;}{$9}{;}");
        s.renders(0, "[ab]");
        s.renders(1, "[ac]");
        s.renders(2, "[d]");
        s.fails("{!1}", TemplateQuarry.MACRO);
        s.fails("{&1}x{;}", TemplateQuarry.MACRO);
        s.fails("{$2}{;}{!1}", TemplateQuarry.MACRO);
        s.set(3, "{!5}").set(4, "{$5}{;}{@3}");
        s.fails(4, TemplateQuarry.MACRO);
        Sheet.says("of several macros of a template with one digit the first one counts");
        s.puts("{!1}{$1}a{;}{$1}b{;}{!1}", "aa");
        s.puts("{?0}{$1}a{;}{;}{$1}b{;}{!1}", "a");
        s.puts("{?1}{:}{*ba}{$1}a{;}{;}{;}{$1}b{;}{!1}", "a");
        Sheet.says("A macro and a block may stand anywhere in a body");
        for (String body : new String[] {"/", "{?0}/{;}", "{?1}{:}/{;}", "{*bz}/{;}", "{*bz}{:}/{;}", "{+}/{:}{;}", "{+}{:}/{;}", "{#2}/{;}",
            "{$2}/{;}", "{&2}/{;}", "{k2}/{;}"}) {
            s.set(5, "{<6}" + body.replace("/", "{$1}m{;}{#1}b{;}")).set(6, "{!1}{#1}{;}");
            s.renders(5, "mb");
        }
        Sheet.says("in a scope with the parameters, from which only the data are seen behind it, and the line is as where the macro was called.");
        s.puts("{%a1}{%b2}{$1b}{=a}{=b}{=c|d'-'}{;}{#1}{%c3}{!1c}{;}", "93-");
        s.puts("{$1}{%a1}{=a}{!2}{;}{$2}{=a}{;}{!1}{=a}", "199");
        s.set(0, "{$1}{#1}a{;}{!2}{;}{$2}c{;}{!1}").set(1, "{<0}{$2}d{;}{#1}b{;}");
        s.renders(0, "ac");
        s.renders(1, "bd");
    }

    private static void arguments() {
        Sheet s = new Sheet();
        Sheet.says("the first one without a name to the first one, the second one without a name to the second one, and so on, one with a name to that;");
        String macro = "{$1abc}{=a|d'-'}{=b|d'-'}{=c|d'-'}{;}";
        String[] calls = {"{!1}", "---", "{!11}", "1--", "{!11,2}", "12-", "{!11,2,3}", "123", "{!1c:1}", "--1", "{!1c:1,2,3}", "231",
            "{!11,c:2,3}", "132", "{!1b:1,c:2,a:3}", "312", "{!1z,z,z}", "---", "{!1b:z,1}", "1--"};
        for (int i = 0; i < calls.length; i += 2) {
            s.puts(macro + calls[i], calls[i + 1]);
            s.puts(macro + calls[i].replace('!', '&') + "{;}", calls[i + 1]);
        }
        Sheet.says("MACRO if there is no such parameter, or it has got one already.");
        String[] wrong = {"{$1}{;}{!11}", "{$1}{;}{!1a:1}", "{$1a}{;}{!11,2}", "{$1a}{;}{!1b:1}", "{$1ab}{;}{!11,2,3}", "{$1ab}{;}{!11,a:2}",
            "{$1ab}{;}{!1a:1,2}", "{$1ab}{;}{!1b:1,2,3}", "{$1ab}{;}{!1b:1,b:2}", "{$1ab}{;}{!1a:z,1}", "{$1a}{;}{!1a:z,a:z}"};
        for (String text : wrong) {
            s.fails(text, TemplateQuarry.MACRO);
            s.fails(text.replace('!', '&') + "{;}", TemplateQuarry.MACRO);
        }
        s.puts("{$1ab}{=a|d'-'}{=b}{;}{!1b:1}{+}{!1b:1,2,b:3}{:}x{;}{+}{!1b:1,1,2}{:}y{;}", "-1xy");
        Sheet.says("Its arguments are found one by one; each, when it was found, goes to a parameter");
        s.fails("{$1a}{;}{!1b:z.0}", TemplateQuarry.TYPE);
        s.fails("{$1a}{;}{!1b:1,z.0}", TemplateQuarry.MACRO);
        s.fails("{$1a}{;}{!1z.0,b:1}", TemplateQuarry.TYPE);
        s.fails("{!1z.0}", TemplateQuarry.MACRO);
        s.number('a', 5).puts("{$1ab}{=a}{=b}{;}{%a6}{!1(a+1),a}", "76");
    }

    private static void defaults() {
        Sheet s = new Sheet();
        s.number('a', 9);
        Sheet.says("Parameters that got none, by their order, have their default, which is found in the scope of the macro, or are nothing.");
        s.puts("{$1x=1y=(x+1)z=(y*2)}{=x}{=y}{=z} {;}{!1}{!15}{!1y:5}{!1z:0}", "124 5612 1510 120 ");
        s.puts("{%a1}{$1x=a}{=x}{;}{!1}", "9");
        s.puts("{%a1}{#2}{%a2}{;}{$1x=a}{=x}{;}{!1}{#3}{!1}{;}", "99");
        s.puts("{$1x=yy=3}{=x}{;}{!1y:4}", "4");
        s.puts("{$1xy=x}{=y|d'-'}{;}{!1}{!12}", "-2");
        s.puts("{$1x=z.0}{=x}{;}{!11}", "1");
        s.fails("{$1x=z.0}{;}{!1}", TemplateQuarry.TYPE);
        s.puts("{$1x=z.0}{=x|d'-'}{;}{!1z}", "-");
        s.puts("{$1x='<b>'y=!0}{=x}{=y}{;}{!1}", "<b>1");
    }

    private static void callersBodies() {
        Sheet s = new Sheet();
        s.number('a', 9).list('l', "1", "2");
        Sheet.says("{~} in the macro then renders b, in a scope of its own, as it would be where the call stands (its scopes, its line, its own {~});");
        s.puts("{%b1}{$1b}{%c3}{~}{~}{=b}{;}{&12}{=b}{=c|d'-'}{%b(b+1)}{=b}{;}{=b}", "1-21-221");
        s.puts("{$1}[{~}]{;}{$2}({&1}{~}{~}{;}){;}{&2}x{;}", "([xx])");
        s.puts("{$1}[{~}]{;}{$2}({&1}a{~}b{;}){;}{!2}", "([ab])");
        s.set(0, "{#1}a{;}{$1}{#1}{;}{~}{;}{#2}{;}").set(1, "{<0}{#1}b{;}{#2}{&1}{#1}{;}{^}{;}{;}");
        s.renders(1, "bbb");
        Sheet.says("{~} without such a body, or in an included template outside of its macros, renders nothing.");
        s.puts("a{~}b{$1}c{~}{;}{!1}", "abc");
        s.set(2, "[{~}]").set(3, "{$1}{~}{@2}{;}{&1}x{;}");
        s.renders(3, "x[]");
        s.set(2, "[{~}{$2}({~}){;}{&2}y{~}{;}{!2}]");
        s.renders(3, "x[(y)()]");
        s.set(4, "{$1}({~}{!2}){;}{$2}<{~}>{;}{&1}x{;}");
        s.renders(4, "(x<>)");
        // whatever is rendered within the macro has it, and nothing behind the macro
        s.puts("{$1}{#1}{~}{;}{?1}{~}{;}{*bl}{~}{;}{k1}{~}{;}{;}{~}{&1}x{;}{~}{#1}{;}", "xxxxx");
        s.puts("{$1}{+}{~}{=z}{:}{~}{;}{;}{&1}x{;}{?1}{~}{;}{$2}{~}{;}{!2}{#3}{~}{;}", "x");
        // nothing is opened without a body
        s.set(5, "{?n}{%n(n-1)}{@5}{:}{~}x{;}").number('n', 12);
        s.renders(5, "x");
    }

    private static void trims() {
        Sheet s = new Sheet();
        s.text('b', " ").text('e', "").text('p', "<>").number('n', 0).message(0, " ", "").set(0, " ").set(1, " x ").set(2, " {-} ");
        Sheet.says("{-} takes blanks off the end of the output, as long as these were put out by literals, and waits");
        s.puts("a   {-}b", "ab");
        s.puts("   {-}b", "b");
        s.puts("   {-}", "");
        s.puts("a{-}b", "ab");
        s.puts("a {=b} {-}x", "a  x");
        s.puts("a {=' '}{-}x", "a  x");
        s.puts("a {t01} {-}x", "a  x");
        s.puts("a  {t02}{=e}{-}x", "ax");
        s.puts("a {@0}{#1} {;}{?1} {;}{k1} {;}{-}x", "ax");
        s.puts("a {k1} {;}{-}x{@0}", "ax ");
        s.puts("a_{-} b", "a_b");
        Sheet.says("blanks of literals are left out until any other character is put out (a text of which none is put out does not end that)");
        s.puts("{-} {@0} {#1} {;}x y", "x y");
        s.puts("a{-} {=b} x", "a  x");
        s.puts("a{-} {=' '} x", "a  x");
        s.puts("a{-} {t01} x", "a  x");
        s.puts("a{-} {=n} x", "a0 x");
        s.puts("a{-} {=e} {=''} {t02} x", "ax");
        s.puts("<{-} {=p} x", "<x");
        s.puts("<i{-} {=p} x", "<ix");
        s.puts("<s>{-} {=p} x", "<s>x");
        s.puts("a{@2}b{@2} {@1}c", "abx c");
        s.puts("a{-} {-} x {-}{-}", "ax");
    }

    private static void messages() {
        Sheet s = new Sheet();
        s.message(9, "one#", "other# #").list('l', "1").text('t', "1").number('m', Integer.MIN_VALUE);
        Sheet.says("(TYPE if it is none): its form 0 if that is 1, otherwise its form 1, with the digits of the number for each #, as a safe text.");
        s.puts("{t91} {t90} {t92}", "one1 other0 0 other2 2");
        s.puts("{t9(0-1)} {t9m}", "other-1 -1 other-2147483648 -2147483648");
        s.puts("{t01}{t02}", "");
        for (String e : new String[] {"t", "l", "z", "'1'"}) s.fails("{t9" + e + "}", TemplateQuarry.TYPE);
        s.message(8, "<#>", "").puts("<s {t81}", "<s <1>");
    }

    private static void failures() {
        Sheet s = new Sheet();
        Sheet.says("Rendering fails with what is told in capitals above; the output is without characters then.");
        s.set(0, "abc{=z}").set(1, "abc");
        s.renders(1, "abc");
        s.fails(0, TemplateQuarry.NOTHING);
        Sheet.throwsDue("no output", IndexOutOfBoundsException.class, () -> s.x.out(0));
        Sheet.throwsDue("no output", IndexOutOfBoundsException.class, () -> s.x.context(1));
        Sheet.due("the context of no output", s.x.context(0), TemplateQuarry.TEXT);
        Sheet.due("alike", s.x.alike(), 0);
        s.renders(1, "abc");
        Sheet.due("alike", s.x.alike(), 0);
        Sheet.says("Returns how many characters the output has; otherwise why it fails.");
        Sheet.due("three", s.x.render(1), 3);
        Sheet.due("nothing", s.x.render(0), TemplateQuarry.NOTHING);
        Sheet.due("none", s.x.render(2), 0);
        Sheet.says("Nothing cannot be put out: NOTHING; a list neither: TYPE.");
        s.list('l').puts("{=''}", "");
        s.fails("{=z}", TemplateQuarry.NOTHING);
        s.fails("{=l}", TemplateQuarry.TYPE);
    }
}
