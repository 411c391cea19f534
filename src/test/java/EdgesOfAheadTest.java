/** Promises 24 to 26 and Looking ahead: each sentence that names a boundary case, by itself. */
public final class EdgesOfAheadTest {
    private static final int NOTHING = 1, NUMBER = 2, TEXT = 4, LIST = 8, ANY = 15;
    private static final int[] ALL = {0, 1, 2, 3, 4, 5, 6, 7};

    public static void main(String[] args) {
        literals();
        trimsAhead();
        outputsAhead();
        allContexts();
        bodiesTogether();
        loopsAhead();
        others();
        shapes();
        outputAndCounts();
        operands();
        filters();
        order();
        withoutNothing();
        loopsAndSets();
        kindsOfOperators();
        kindsOfFilters();
        noKindLeft();
        Sheet.end();
    }

    private static void literals() {
        Sheet s = new Sheet();
        Sheet.says("its body is gone through from TEXT on, with the set of contexts in which one may stand.");
        s.mayEnd("", 0);
        String[] texts = {"a", "<", "<b", "<b\"", "<s", "<s\"", "<s>", "<s>'"};
        for (int i = 0; i < texts.length; i++) s.mayEnd(texts[i], i);
        Sheet.says("A literal leads each of them on; a blank may leave them, too.");
        s.mayEnd(" ", 0);
        s.mayEnd("< ", 1, 2);
        s.mayEnd("<  ", 1, 2);
        s.mayEnd("< s", 2, 4);
        s.mayEnd("< >", 0);
        s.mayEnd("< \"", 2, 3);
        s.mayEnd("< s\"", 3, 5);
        s.mayEnd("< s>'", 0, 7);
        s.mayEnd("<b\" ", 3);
        s.mayEnd("<s> ", 6);
        // each character that can be typed, from each context
        for (int from = 0; from < texts.length; from++) {
            for (char c = 33; c <= 126; c++) {
                if (c != '{' && c != '}') s.mayEnd(texts[from] + c, Oracle.lead(from, c));
            }
            if (from != 1) s.mayEnd(texts[from] + " ", from);
        }
    }

    private static void trimsAhead() {
        Sheet s = new Sheet();
        Sheet.says("{-}: if TAG is among them, OPENED as well.");
        s.mayEnd("{-}", 0);
        s.mayEnd("<{-}", 1);
        s.mayEnd("<b{-}", 1, 2);
        s.mayEnd("<b\"{-}", 3);
        s.mayEnd("<s{-}", 4);
        s.mayEnd("<s\"{-}", 5);
        s.mayEnd("<s>{-}", 6);
        s.mayEnd("<s>'{-}", 7);
        s.mayEnd("{?a}<b{;}{-}", 0, 1, 2);
    }

    private static void outputsAhead() {
        Sheet s = new Sheet();
        Sheet.says("{=e}: if a ' or |r stands in e, or a variable that some {%ve} anywhere in the template sets, to all contexts;");
        for (String e : new String[] {"''", "a|r", "(1+'')", "(a|r?1)", "!'x'", "a|d''", "a|d(1+b|r)", "''|l", "a|r|n"}) {
            s.mayEnd("{=" + e + "}", ALL);
        }
        for (String e : new String[] {"1", "a", "a.1", "a|u", "a|l", "a|j", "a|n", "a|db", "(a+b)", "!a", "((a?b)+c.0)"}) {
            s.mayEnd("{=" + e + "}", 0);
            s.mayEnd("{%z''}{=" + e + "}", 0);
            s.mayEnd("{=z}{=" + e + "}", 0);
        }
        for (String e : new String[] {"b", "b.1", "b|u", "(a+b)", "(b=1)", "!b", "a|db", "b|l"}) {
            for (String set : new String[] {"{%b1}", "{$1}{%b1}{;}", "{?0}{%b1}{;}", "{?0}{:}{%b1}{;}", "{*ca}{%b1}{;}", "{+}{:}{%b1}{;}"}) {
                s.mayEnd("{=" + e + "}" + set, ALL);
            }
            s.mayEnd("{=" + e + "}{%a''}", e.indexOf('a') >= 0 ? ALL : new int[] {0});
        }
        // a variable that another template sets, or a loop, or a macro, is none
        s.set(1, "{%b1}");
        s.mayEnd("{=b}", 0);
        s.mayEnd("{*bl}{=b}{;}{$1b='<'}{;}", 0);
        s.mayEnd("{$1}{=''}{;}{%b''}{?''}{;}{*b''}{;}", 0);
        Sheet.says("otherwise they stay, and OPENED leads to TAG as well.");
        s.mayEnd("<{=a}", 1, 2);
        s.mayEnd("<{=1}", 1, 2);
        s.mayEnd("<b{=a}", 2);
        s.mayEnd("<b\"{=a}", 3);
        s.mayEnd("<s{=a}", 4);
        s.mayEnd("<s\"{=a}", 5);
        s.mayEnd("<s>{=a}", 6);
        s.mayEnd("<s>'{=a}", 7);
    }

    private static void allContexts() {
        Sheet s = new Sheet();
        Sheet.says("{td e}, {#d}, {^}, {@d}, calls and {~}: to all contexts.");
        for (String tag : new String[] {"{t01}", "{#1}{;}", "{#1}x{;}", "{^}", "{@9}", "{!1}", "{&1}{;}", "{&1}x{;}", "{~}"}) {
            s.mayEnd(tag, ALL);
            s.mayEnd(tag + "<", 1, 2, 3, 4, 5, 7);
            s.mayEnd(tag + ">", 0, 3, 5, 6, 7);
        }
    }

    private static void bodiesTogether() {
        Sheet s = new Sheet();
        Sheet.says("A choice, a loop and a try: the sets behind both bodies together (without a second body, that as it was);");
        s.mayEnd("{?a}<{;}", 0, 1);
        s.mayEnd("{?a}<{:}{;}", 0, 1);
        s.mayEnd("{?a}{:}<{;}", 0, 1);
        s.mayEnd("{?a}<{:}<b{;}", 1, 2);
        s.mayEnd("{+}<{:}<b{;}", 1, 2);
        s.mayEnd("{+}{:}<b{;}", 0, 2);
        s.mayEnd("{+}<b{:}{;}", 0, 2);
        s.mayEnd("<{?a}s{:}b{;}>", 0, 6);
        s.mayEnd("<{?a}b{;}{?a}s{;}", 1, 2, 4);
        s.mayEnd("{?a}{?b}<{:}<b{;}{:}<s{;}", 1, 2, 4);
        Sheet.says("the second bodies from the set ahead of the tag");
        s.mayEnd("<{?a}b{:}s{;}", 2, 4);
        s.mayEnd("<{+}b\"{:}s\"{;}", 3, 5);
        s.mayEnd("<{*ba}b{:}s{;}", 2, 4);
    }

    private static void loopsAhead() {
        Sheet s = new Sheet();
        Sheet.says("the first body of a loop is gone through again and again with what came behind it besides, until nothing is added");
        s.mayEnd("{*aa}{;}", 0);
        s.mayEnd("{*aa}x{;}", 0);
        s.mayEnd("{*aa}<{;}", 0, 1, 2);
        s.mayEnd("{*aa}<{:}{;}", 0, 1, 2);
        s.mayEnd("{*aa}<{:}<{;}", 1, 2);
        s.mayEnd("{*aa}{:}<{;}", 0, 1);
        // one round after the other: TEXT, OPENED, SCRIPT_TAG, and so on
        s.mayEnd("<{*aa}s{;}", 1, 4);
        s.mayEnd("<{*aa}s{:}b{;}", 2, 4);
        s.mayEnd("<{*aa}{?b}s{;}{?c}\"{;}{;}", 1, 2, 3, 4, 5);
        s.mayEnd("<s{*aa}>'{;}", 4, 6, 7);
        s.mayEnd("<s>{*aa}'<{;}", 1, 2, 6, 7);
        s.mayEnd("{*aa}{?b}<{;}{?b}s{;}{?b}>{;}{?b}'{;}{?b}\"{;}{;}", ALL);
        // all eight, one in each round
        s.mayEnd("{*aa}{?b}'{:}{?b}>{:}{?b}\"{:}{?b}s{:}<{;}{;}{;}{;}{;}", ALL);
        s.mayEnd("{*aa}{*bb}<{;}s{;}", 0, 2, 4);
        s.mayEnd("<{*aa}{*bb}s{;}{;}", 1, 4);
        Sheet.says("{kd}: as its body. Others leave the set.");
        s.mayEnd("<{k1}s>{;}'", 7);
        s.mayEnd("{k1}{;}", 0);
        s.mayEnd("{*aa}{k1}<{;}{;}", 0, 1, 2);
    }

    private static void others() {
        Sheet s = new Sheet();
        Sheet.says("Others leave the set.");
        s.mayEnd("<{%a1}", 1);
        s.mayEnd("<{$1}s{#1}{;}{;}", 1);
        s.mayEnd("{<1}<", 1);
        s.mayEnd("{<1}{$1}<{;}", 0);
    }

    private static void shapes() {
        Sheet s = new Sheet();
        Sheet.says("Returns the kinds before.");
        for (char v : new char[] {'a', 'z'}) {
            int before = 15;
            for (int kinds = 1; kinds <= 15; kinds++) {
                Sheet.due("shape", s.x.shape(v, kinds), before);
                before = kinds;
            }
        }
        Sheet.says("Throws `IllegalArgumentException` if name or kinds is out of its range");
        for (char name : new char[] {0, 'A', '`', '{', 'a' + 256, 65535}) {
            Sheet.throwsDue("a name", IllegalArgumentException.class, () -> s.x.shape(name, 1));
        }
        for (int kinds : new int[] {0, 16, -1, 17, 31, Integer.MIN_VALUE, Integer.MAX_VALUE}) {
            Sheet.throwsDue("kinds " + kinds, IllegalArgumentException.class, () -> s.x.shape('a', kinds));
        }
        Sheet.due("they stay", s.x.shape('a', 1), 15);
        Sheet.says("nothing (1), number (2), text (4), list (8), added up, all (15) at first");
        s.check("{=b}", 0);
        s.x.shape('b', NUMBER | TEXT);
        s.check("{=b}", -1);
        // what the data are does not count
        s.number('c', 1).check("{=c}", 0);
        s.x.shape('d', NUMBER);
        s.text('d', "x").check("{t1d}", -1);
    }

    /** The text may fail at a place, unless a has kinds that are fine alone. */
    private static void fine(Sheet s, String text, int place, int fine) {
        s.set(9, text);
        for (int kinds = 1; kinds <= ANY; kinds++) {
            s.x.shape('a', kinds);
            Sheet.due("check of " + text + " by " + kinds, s.x.check(9), (kinds & ~fine) == 0 ? TemplateQuarry.NONE : place);
        }
    }

    private static void outputAndCounts() {
        Sheet s = new Sheet();
        Sheet.says("{=e} if e may be nothing or a list, {*ve} if it may be no list, {tde} if it may be no number");
        fine(s, "{=a}", 0, NUMBER | TEXT);
        fine(s, "x{*ba}{;}", 1, LIST);
        fine(s, "xy{t0a}", 2, NUMBER);
        fine(s, "{?a}{;}{%ba}{!1a,b:a}{&1a}{;}", 0, ANY);
        s.check("{=''}{=1}{t11}{*b1}{;}", 14);
        s.check("{t1''}", 0);
    }

    private static void operands() {
        Sheet s = new Sheet();
        Sheet.says("(- and * numbers; + numbers or texts, both the same; < likewise;");
        for (char o : new char[] {'-', '*'}) {
            fine(s, "{%b(a" + o + "1)}", 0, NUMBER);
            fine(s, "{%b(1" + o + "a)}", 0, NUMBER);
            fine(s, "{%b(a" + o + "'')}", 0, 0);
        }
        for (char o : new char[] {'+', '<'}) {
            fine(s, "{%b(a" + o + "1)}", 0, NUMBER);
            fine(s, "{%b(1" + o + "a)}", 0, NUMBER);
            fine(s, "{%b(a" + o + "'')}", 0, TEXT);
            fine(s, "{%b(''" + o + "a)}", 0, TEXT);
            fine(s, "{%b(a" + o + "z)}", 0, 0);
            s.set(9, "{%b(a" + o + "a)}");
            for (int kinds = 1; kinds <= ANY; kinds++) {
                s.x.shape('a', kinds);
                Sheet.due("by " + kinds, s.x.check(9), kinds == NUMBER || kinds == TEXT ? -1 : 0);
            }
        }
        for (char o : new char[] {'=', '&', '?'}) fine(s, "{%b(a" + o + "a)}", 0, ANY);
        fine(s, "{%b!a}", 0, ANY);
    }

    private static void filters() {
        Sheet s = new Sheet();
        Sheet.says("|u and |r a text, |l a text or a list, |j a list, |n a text; v.d a list)");
        fine(s, "{%ba|u}", 0, TEXT);
        fine(s, "{%ba|r}", 0, TEXT);
        fine(s, "{%ba|l}", 0, TEXT | LIST);
        fine(s, "{%ba|j}", 0, LIST);
        fine(s, "{%ba|n}", 0, TEXT);
        fine(s, "{%ba.0}", 0, LIST);
        fine(s, "{%ba|d1}", 0, ANY);
        fine(s, "{%b1|da|u}", 0, 0);
        Sheet.says("and any tag in whose expressions a filter or an operator may get a wrong kind");
        s.x.shape('l', LIST);
        for (String tag : new String[] {"{=(a|u?1)}", "{?a|u}{;}", "{%ba|u}", "{!1a|u}", "{!11,2,b:a|u}", "{&11,a|u}{;}", "{t1(a|u&1)}"}) {
            fine(s, tag, 0, TEXT);
            fine(s, "{-}" + tag, 3, TEXT);
        }
        fine(s, "{*b(1?a|j)}{;}", 0, 0);
        fine(s, "{*b(0?l)}{;}", 0, 0);
        fine(s, "{%b((1-(a-1))*!(a-1))}", 0, NUMBER);
        fine(s, "{%b1|d(a-1)}", 0, NUMBER);
    }

    private static void order() {
        Sheet s = new Sheet();
        Sheet.says("To check a template is to go through its body and the second bodies, bodies of blocks, calls, fragments, not of macros");
        for (String text : new String[] {"/", "{?1}/{;}", "{?1}{:}/{;}", "{*bl}/{;}", "{*bl}{:}/{;}", "{+}/{:}{;}", "{+}{:}/{;}", "{#1}/{;}", "{&1}/{;}",
            "{k1}/{;}", "{?1}{:}{+}{:}{*bl}{:}{#1}{k1}/{;}{;}{;}{;}{;}", "{<1}/", "{$1}{=z}{;}/"}) {
            s.x.shape('l', LIST);
            s.check(text.replace("/", "{=z}x{=z}"), text.indexOf('/'));
        }
        Sheet.says("Returns the place of the { of the first tag that may fail; NONE if there is none.");
        s.check("", -1);
        s.check("x".repeat(76) + "{=z}", 76);
        s.check("x".repeat(76) + "{=1}", -1);
        s.check("{$1}{=z}{;}{$1}{#1}{=z}{;}{;}", -1);
        Sheet.says("whose parameters are not looked at either, in the order of the text");
        s.check("{$1a=z.0b=(1-'')c='x'}{;}", -1);
        s.check("{?1}{=z}{:}{=z}{;}{=z}", 4);
        s.check("{?1}{:}{=z}{;}{=z}", 7);
        s.check("{?z|l}{=z}{;}", 0);
        s.check("{^}{~}{-}{@1}{=1}{=z}", 17);
    }

    private static void withoutNothing() {
        Sheet s = new Sheet();
        Sheet.says("In the first body of {?v}, v being just a variable, it is not nothing.");
        fine(s, "{?a}{=a}{;}", 4, NOTHING | NUMBER | TEXT);
        fine(s, "{?a}{?1}{=a}{;}{;}", 8, NOTHING | NUMBER | TEXT);
        fine(s, "{?a}{:}{=a}{;}", 7, NUMBER | TEXT);
        fine(s, "{?a}{;}{=a}", 7, NUMBER | TEXT);
        for (String e : new String[] {"!!a", "(a?a)", "(a&1)", "a|da", "(a=1)"}) {
            fine(s, "{?" + e + "}{=a}{;}", 3 + e.length(), NUMBER | TEXT);
        }
        fine(s, "{?b}{=a}{;}", 4, NUMBER | TEXT);
        fine(s, "{?a}{%az}{=a}{;}", 9, 0);
    }

    private static void loopsAndSets() {
        Sheet s = new Sheet();
        s.x.shape('l', LIST);
        Sheet.says("The variable of a loop is a number or a text (6), in its body;");
        s.check("{*zl}{=z}{;}", -1);
        s.check("{*zl}{%bz|u}{;}", 5);
        s.check("{*zl}{t1z}{;}", 5);
        s.check("{*zl}{*bz}{;}{;}", 5);
        s.check("{*zl}{:}{=z}{;}", 8);
        s.check("{*zl}{;}{=z}", 8);
        s.x.shape('n', NUMBER);
        s.check("{*nl}{%nn}{;}{t1n}", -1);
        s.check("{*nl}{:}{t1n}{;}{t1n}", -1);
        s.check("{*ll}{;}{*bl}{=b}{;}", -1);
        s.check("{*ll}{*bl}{;}{;}", 5);
        Sheet.says("{%ve} gives the variable the kinds of e, up to the end of the body in which it stands.");
        s.check("{%z1}{=z}{t1z}", -1);
        s.check("{=z}{%z1}", 0);
        s.check("{%zl}{=z}", 5);
        s.check("{%z1}{%zl}{*bz}{;}{%zz}{=z}", 23);
        s.check("{%z1}{?1}{=z}{%zl}{:}{=z}{;}{=z}", -1);
        for (String text : new String[] {"{?1}{%z1}{;}", "{?1}{:}{%z1}{;}", "{+}{%z1}{:}{;}", "{+}{:}{%z1}{;}", "{#1}{%z1}{;}", "{&1}{%z1}{;}", "{k1}{%z1}{;}",
            "{*bl}{%z1}{;}", "{*bl}{:}{%z1}{;}", "{$1}{%z1}{;}"}) {
            s.check(text + "{=z}", text.length());
        }
        s.check("{?1}{%z1}{:}{=z}{;}", 12);
        s.check("{?1}{?1}{%z1}{;}{=z}{;}", 16);
        s.check("{%z1}{?1}{+}{#1}{&1}{k1}{*bl}{=z}{;}{;}{;}{;}{:}{;}{;}", -1);
    }

    /** The expression may be just these kinds. */
    private static void kinds(Sheet s, String e, int kinds) {
        s.set(9, "{%b" + e + "}{=b}{%cb}");
        int place = e.length() + 4;
        Sheet.due("nothing or a list: " + e, s.x.check(9), (kinds & (NOTHING | LIST)) == 0 ? -1 : place);
        s.set(9, "{%b" + e + "}{t1b}");
        Sheet.due("not a number: " + e, s.x.check(9), (kinds & ~NUMBER) == 0 ? -1 : place);
        s.set(9, "{%b" + e + "}{%cb|u}");
        Sheet.due("not a text: " + e, s.x.check(9), (kinds & ~TEXT) == 0 ? -1 : place);
        s.set(9, "{%b" + e + "}{*cb}{;}");
        Sheet.due("not a list: " + e, s.x.check(9), (kinds & ~LIST) == 0 ? -1 : place);
        s.set(9, "{%b" + e + "}{%cb|l}");
        Sheet.due("nothing or a number: " + e, s.x.check(9), (kinds & (NOTHING | NUMBER)) == 0 ? -1 : place);
        s.set(9, "{%b" + e + "}{?b}{=b}{;}");
        Sheet.due("a list: " + e, s.x.check(9), (kinds & LIST) == 0 ? -1 : place + 4);
    }

    private static Sheet shaped() {
        Sheet s = new Sheet();
        s.x.shape('n', NUMBER);
        s.x.shape('t', TEXT);
        s.x.shape('l', LIST);
        s.x.shape('o', NOTHING);
        s.x.shape('p', NOTHING | NUMBER);
        s.x.shape('q', TEXT | LIST);
        return s;
    }

    private static void kindsOfOperators() {
        Sheet s = shaped();
        Sheet.says("= & ! are numbers; + - * numbers, + of texts a text; of both what may be;");
        for (String e : new String[] {"(z=y)", "(z&y)", "!z", "(n+n)", "(n-n)", "(n*n)", "(n<n)", "(t<t)", "1", "n"}) kinds(s, e, NUMBER);
        for (String e : new String[] {"(t+t)", "(''+t)", "''", "t"}) kinds(s, e, TEXT);
        Sheet.says("? what the first one may be but nothing, and what the second one may be;");
        kinds(s, "(z?z)", ANY);
        kinds(s, "(p?n)", NUMBER);
        kinds(s, "(n?p)", NOTHING | NUMBER);
        kinds(s, "(o?t)", TEXT);
        kinds(s, "(p?t)", NUMBER | TEXT);
        kinds(s, "(q?l)", TEXT | LIST);
        kinds(s, "(o?o)", NOTHING);
        kinds(s, "(n?l)", NUMBER | LIST);
        kinds(s, "(z?n)", NUMBER | TEXT | LIST);
    }

    private static void kindsOfFilters() {
        Sheet s = shaped();
        Sheet.says("v.d a number or a text; |l number, |n nothing or a number, |j text, |d what it may be but nothing, and what the primary may be.");
        kinds(s, "l.0", NUMBER | TEXT);
        kinds(s, "t|l", NUMBER);
        kinds(s, "l|l", NUMBER);
        kinds(s, "q|l", NUMBER);
        kinds(s, "t|n", NOTHING | NUMBER);
        kinds(s, "l|j", TEXT);
        kinds(s, "t|u", TEXT);
        kinds(s, "t|r", TEXT);
        kinds(s, "z|dz", ANY);
        kinds(s, "p|dn", NUMBER);
        kinds(s, "p|d''", NUMBER | TEXT);
        kinds(s, "n|dp", NOTHING | NUMBER);
        kinds(s, "o|dl", LIST);
        kinds(s, "o|do", NOTHING);
        kinds(s, "z|d1", NUMBER | TEXT | LIST);
        kinds(s, "t|n|d0", NUMBER);
        Sheet.says("Wrong kinds in what may be do not count further: the right ones go on.");
        // the tag that may get a wrong kind is told, and what is behind it is looked at no more
        s.check("{=1}{%bz|u}{=b}{=z}", 4);
    }

    private static void noKindLeft() {
        Sheet s = shaped();
        Sheet.says("one of whose values has no kind left (as a variable that is nothing alone has none in the first body of {?v}), gets no wrong kind by that");
        s.x.shape('a', NOTHING);
        for (String e : new String[] {"a", "(a+1)", "(1+a)", "(a-z)", "(z*a)", "(a<l)", "(l<a)", "(a=z)", "(z=a)", "(a&z)", "(z&a)", "(a?z)", "(z?a)", "!a", "a|u",
            "a|l", "a|r", "a|j", "a|n", "a|dz", "z|da", "a.0", "((a-1)+z)", "a|l|u", "!(a=1)"}) {
            s.check("{?a}{=" + e + "}{t1" + e + "}{*b" + e + "}{;}{;}", -1);
            s.check("{?a}{%b" + e + "}{=b}{t1b}{*cb}{;}{;}", -1);
        }
        s.check("{?a}{;}{=a}", 7);
        s.check("{?a}{:}{=a}{;}", 7);
        s.check("{?(a=a)}{=a}{;}", 8);
        Sheet.says(", and has no kind itself;");
        // one that had a kind would be a wrong one, of one filter or the other
        for (String e : new String[] {"a", "(a+1)", "(a+'')", "(a-1)", "(a<1)", "(a=1)", "(1&a)", "(a?1)", "(1?a)", "!a", "a|u", "a|l", "a|r", "a|j", "a|n",
            "a|d1", "1|da", "a.0"}) {
            s.check("{?a}{%b" + e + "}{%cb|u}{%cb|j}{%c(b-1)}{%c(b+'')}{;}", -1);
        }
        Sheet.says("what stands within it is looked at all the same.");
        for (String e : new String[] {"(a+z|u)", "(z|u+a)", "(a?z.0)", "(a&(z-1))", "a|d(z-1)", "(a=(t-1))", "((z-1)<a)", "(a.0-(z-1))"}) {
            s.check("{?a}{=" + e + "}{;}", 4);
        }
        s.check("{?a}{=a}{?1}{=z}{;}{;}", 12);
    }
}
