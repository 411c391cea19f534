/** Promises 13 to 17: budgets, what rendering costs, and kept fragments: each sentence that names a boundary case, by itself. */
public final class EdgesOfCostsTest {
    private static final String THIRTY = "abcdefghijklmnopqrstuvwxyzABCD";

    public static void main(String[] args) {
        budgets();
        steps();
        stepsOfTags();
        thousand();
        fullByEach();
        fullAtAnyTime();
        depthOfEach();
        depthOfCallsAndTheirBodies();
        notOpen();
        hitsAndKept();
        sameTag();
        sameLine();
        sameContextAndWait();
        sameValues();
        whatIsRead();
        notKept();
        withinAnother();
        goneAndStaying();
        Sheet.end();
    }

    private static void budgets() {
        Sheet s = new Sheet();
        Sheet.says("`steps`: 1 to 2000");
        Sheet.due("1", s.x.budget(1), 1000);
        Sheet.due("2000", s.x.budget(2000), 1);
        Sheet.says("Throws `IllegalArgumentException` if steps is out of its range");
        for (int n : new int[] {0, -1, 2001, 2002, -1000, Integer.MIN_VALUE, Integer.MAX_VALUE}) {
            Sheet.throwsDue("budget " + n, IllegalArgumentException.class, () -> s.x.budget(n));
        }
        Sheet.says("Returns the budget before.");
        Sheet.due("the refused ones changed nothing", s.x.budget(7), 2000);
        Sheet.due("7", s.x.budget(7), 7);
        Sheet.says("Returns how many steps the latest rendering has cost.");
        Sheet.due("none yet", s.x.spent(), 0);
        s.set(0, "abc").set(1, "").set(2, "abcdefgh").set(3, "{<3}");
        s.renders(0, "abc");
        Sheet.due("spent", s.x.spent(), 3);
        s.renders(1, "");
        Sheet.due("spent", s.x.spent(), 0);
        s.fails(2, TemplateQuarry.STEPS);
        Sheet.due("spent", s.x.spent(), 7);
        s.fails(3, TemplateQuarry.DEPTH);
        Sheet.due("spent", s.x.spent(), 0);
        s.renders(0, "abc");
        Sheet.throwsDue("no such template", IndexOutOfBoundsException.class, () -> s.x.render(-1));
        Sheet.due("spent stays", s.x.spent(), 3);
    }

    private static void steps() {
        Sheet s = new Sheet();
        Sheet.says("With a step that would be beyond the budget, 1000 at first: STEPS, and it is not paid.");
        s.set(0, "a").set(1, "ab").set(2, "").set(3, "{=z}").set(4, "a{=z}");
        s.x.budget(1);
        s.renders(0, "a");
        s.renders(2, "");
        s.fails(1, TemplateQuarry.STEPS);
        Sheet.due("spent", s.x.spent(), 1);
        s.fails(3, TemplateQuarry.NOTHING);
        // the step is paid ahead of what the tag does
        s.fails(4, TemplateQuarry.STEPS);
        s.x.budget(2);
        s.fails(4, TemplateQuarry.NOTHING);
        s.renders(1, "ab");
        Sheet.says("Steps that were paid stay paid, whatever fails.");
        s.set(5, "{+}abc{=z}{:}d{;}");
        s.x.budget(6);
        s.renders(5, "d");
        Sheet.due("spent", s.x.spent(), 6);
        s.x.budget(5);
        s.fails(5, TemplateQuarry.STEPS);
        Sheet.due("spent", s.x.spent(), 5);
        s.x.budget(100);
        s.fails(4, TemplateQuarry.NOTHING);
        Sheet.due("spent", s.x.spent(), 2);
    }

    private static void spends(Sheet s, String text, int want) {
        s.set(9, text);
        s.x.render(9);
        Sheet.due("spent by " + text, s.x.spent(), want);
    }

    private static void stepsOfTags() {
        Sheet s = new Sheet();
        s.list('l', "1", "2", "3").list('e').set(0, "ab");
        Sheet.says("Each tag that is met, but macros and {<d}, costs a step, ahead of what it does");
        String[] one = {"{=1}", "{=(1+(2+3))}", "{?1}{:}{;}", "{?0}{:}{;}", "{?0}{;}", "{*ae}{:}{;}", "{*ae}{;}", "{+}{:}{;}", "{#1}{;}", "{@5}",
            "{%a1}", "{-}", "{~}", "{t11}", "{k1}{;}", "{^}", "{!1}", "{&1}{;}", "{=z}", "{*aa}{;}"};
        for (String text : one) spends(s, text, 1);
        spends(s, "{$1}{$2}{=1}{;}{=1}{;}", 0);
        spends(s, "{<5}", 0);
        spends(s, "{<0}", 2);
        spends(s, "{$1}{;}{!1}", 1);
        spends(s, "{$1}{~}{;}{&1}{;}", 2);
        spends(s, "{@0}{@0}", 6);
        spends(s, "{+}{=z}{:}{-}{;}", 3);
        Sheet.says("each literal, also a blank that is left out");
        spends(s, "a", 1);
        spends(s, "{-} ", 2);
        spends(s, "{-}   a  ", 7);
        spends(s, "a  {-}", 4);
        spends(s, "{?1}ab{:}cdef{;}{?0}ab{:}cdef{;}{#1}x{;}", 10);
        Sheet.says("and each round of a loop too");
        spends(s, "{*al}{;}", 4);
        spends(s, "{*al}x{;}", 7);
        spends(s, "{*al}{*bl}{;}{;}", 1 + 3 * 5);
        spends(s, "{*ae}x{:}yz{;}", 3);
        s.set(1, "{*al}x{;}");
        for (int budget = 1; budget <= 6; budget++) {
            s.x.budget(budget);
            s.fails(1, TemplateQuarry.STEPS);
            Sheet.due("spent", s.x.spent(), budget);
        }
        s.x.budget(7);
        s.renders(1, "xxx");
        Sheet.says("a kept fragment that is put out costs the step of its tag alone");
        s.x.budget(1000);
        s.set(2, "{k1}abc{=1}{;}d");
        s.renders(2, "abc1d");
        Sheet.due("spent", s.x.spent(), 6);
        s.renders(2, "abc1d");
        Sheet.due("spent", s.x.spent(), 2);
        s.x.budget(2);
        s.renders(2, "abc1d");
        s.x.budget(1);
        s.fails(2, TemplateQuarry.STEPS);
        Sheet.due("hits", s.x.hits(), 1);
    }

    private static void thousand() {
        Sheet s = new Sheet();
        s.list('l', "1", "2", "3", "4", "5", "6", "7", "8");
        Sheet.says("beyond the budget, 1000 at first");
        // 657 steps, 273 and 65
        s.set(1, "{*al}{*bl}{*cl}{;}{;}{;}").set(2, "{*al}{*bl}{-}{-}{-}{;}{;}").set(3, "{*al}{-}{-}{-}{-}{-}{-}{-}{;}");
        s.set(4, "{@1}{@2}{@3}xx").set(5, "{@1}{@2}{@3}xxx").set(6, "{@4}{@4}").set(7, "{@4}{@4}x");
        s.renders(4, "xx");
        Sheet.due("spent", s.x.spent(), 1000);
        s.fails(5, TemplateQuarry.STEPS);
        Sheet.due("spent", s.x.spent(), 1000);
        s.x.budget(1001);
        s.renders(5, "xxx");
        s.x.budget(2000);
        s.fails(6, TemplateQuarry.STEPS);
        Sheet.due("spent", s.x.spent(), 2000);
        s.set(4, "{@1}{@2}{@3}x");
        s.renders(6, "xx");
        Sheet.due("spent", s.x.spent(), 2000);
        s.fails(7, TemplateQuarry.STEPS);
    }

    /** With 299 characters ahead of it a text of one more is fine, and one of two is not. */
    private static void fullBy(Sheet s, String fine, String full) {
        s.set(0, "{*il}{=i}{;}{=t}{=r}");
        s.set(8, "{@0}" + fine);
        Sheet.due("length with " + fine, s.x.render(8), 300);
        s.set(8, "{@0}" + full);
        s.fails(8, TemplateQuarry.FULL);
    }

    private static void fullByEach() {
        Sheet s = new Sheet();
        Sheet.says("With more than 300 characters of output at any time: FULL.");
        s.list('l', THIRTY, THIRTY, THIRTY, THIRTY, THIRTY, THIRTY, THIRTY, THIRTY).text('t', THIRTY).text('r', THIRTY.substring(1));
        s.text('u', "<").text('v', "a").text('w', "ab").number('n', -1).message(0, "#", "##").message(1, "a", "ab");
        fullBy(s, "x", "xy");
        fullBy(s, " ", "  ");
        fullBy(s, "{=1}", "{=10}");
        fullBy(s, "{=9}", "{=n}");
        fullBy(s, "{='a'}", "{='ab'}");
        fullBy(s, "{=v}", "{=w}");
        fullBy(s, "{=u|r}", "{=u}");
        fullBy(s, "{t11}", "{t12}");
        fullBy(s, "{t01}", "{t02}");
        fullBy(s, "{k1}x{;}", "{k1}xy{;}");
        fullBy(s, "x{-}{=''}", "x{-}{=v}");
        fullBy(s, "{+}xy{:}z{;}", "{+}xy{:}zz{;}");
        s.set(0, "{k1}" + THIRTY + "{;}").set(1, "{@0}{@0}{@0}{@0}{@0}{@0}{@0}{@0}{@0}{@0}").set(2, "{@1}x").set(3, "{@1}{@0}");
        s.renders(1, THIRTY.repeat(10));
        Sheet.due("hits", s.x.hits(), 9);
        s.fails(2, TemplateQuarry.FULL);
        s.fails(3, TemplateQuarry.FULL);
    }

    private static void fullAtAnyTime() {
        Sheet s = new Sheet();
        Sheet.says("more than 300 characters of output at any time");
        s.text('t', THIRTY).text('e', "").text('o', "<>");
        s.set(0, "{%f((t+t)+(t+t))}{%f(f+(t+t))}{=f}{=t}{=t}{=t}{=t}");
        s.renders(0, THIRTY.repeat(10));
        // also if a trim or a try would take it back
        s.set(1, "{@0} {-}").set(2, "{@0}{-} {=e}{=''}").set(3, "{+}{@0}x{:}y{;}").set(4, "{+}{@0}{=z}{:}y{;}{@0}");
        s.fails(1, TemplateQuarry.FULL);
        s.renders(2, THIRTY.repeat(10));
        s.renders(3, "y");
        s.fails(4, TemplateQuarry.FULL);
        s.set(5, "x{+}{@0}{:}{;}").set(6, "{+}{@0}{=z}{:}{;}{@0}");
        s.renders(5, "x");
        s.renders(6, THIRTY.repeat(10));
    }

    /** The text is rendered with n of them open, and then with one more. */
    private static void deepest(Sheet s, String text, int n, String want) {
        s.set(0, text).number('n', n);
        s.renders(0, want);
        s.number('n', n + 1);
        s.fails(0, TemplateQuarry.DEPTH);
    }

    private static void depthOfEach() {
        Sheet s = new Sheet();
        s.set(2, "x").set(3, "{#1}x{;}");
        Sheet.says("With more than 12 of blocks, ups, includes, calls, bodies of calls and kept fragments open within one another: DEPTH.");
        // blocks
        deepest(s, "{#1}{?n}{%n(n-1)}{#1}{;}{:}x{;}{;}", 11, "x");
        deepest(s, "{?n}{%n(n-1)}{@0}{:}{#1}x{;}{;}", 11, "x");
        // ups
        deepest(s, "{<3}{#1}{?n}{%n(n-1)}{#1}{;}{:}{^}{;}{;}", 10, "x");
        // includes
        deepest(s, "{?n}{%n(n-1)}{@0}{:}x{;}", 12, "x");
        deepest(s, "{#1}{?n}{%n(n-1)}{#1}{;}{:}{@2}{;}{;}", 10, "x");
        // calls, with a body and without one
        deepest(s, "{$1n}{?n}{!1(n-1)}{:}x{;}{;}{!1n}", 11, "x");
        deepest(s, "{?n}{%n(n-1)}{@0}{:}{!1}{;}{$1}x{;}", 11, "x");
        deepest(s, "{?n}{%n(n-1)}{@0}{:}{&1}y{;}{;}{$1}x{;}", 11, "x");
        // kept fragments, the trim being for that they are not put out again
        deepest(s, "{?n}{%n(n-1)}{@0}{:}{k1}{k2}x{-}{;}{;}{;}", 10, "x");
        for (int t = 4; t <= 9; t++) s.set(t, "{k" + t + "}{@" + (t + 1) % 10 + "}{;}");
        s.set(0, "x");
        s.renders(4, "x");
        s.set(0, "{k0}x{;}");
        s.fails(4, TemplateQuarry.DEPTH);
        s.renders(5, "x");
    }

    private static void depthOfCallsAndTheirBodies() {
        Sheet s = new Sheet();
        Sheet.says("bodies of calls and kept fragments open within one another");
        // a call and its body are two that are open
        deepest(s, "{?n}{%n(n-1)}{@0}{:}{&1}x{;}{;}{$1}{~}{;}", 10, "x");
        s.puts("{$1}{~}{;}{&1}{&1}{&1}{&1}{&1}{&1}x{;}{;}{;}{;}{;}{;}", "x");
        s.fails("{$1}{~}{;}{&1}{&1}{&1}{&1}{&1}{&1}{#1}{;}{;}{;}{;}{;}{;}{;}", TemplateQuarry.DEPTH);
        s.fails("{$1}{~}{;}{#1}{&1}{&1}{&1}{&1}{&1}{&1}x{;}{;}{;}{;}{;}{;}{;}", TemplateQuarry.DEPTH);
        s.puts("{$1}{~}{;}{#1}{&1}{&1}{&1}{&1}{&1}x{;}{;}{;}{;}{;}{;}", "x");
        Sheet.says("Then (DEPTH, if too much is open) its body is rendered");
        s.set(0, "{?n}{%n(n-1)}{@0}{:}{!2}{;}").set(1, "").number('n', 12);
        s.fails(0, TemplateQuarry.MACRO);
        s.set(0, "{?n}{%n(n-1)}{@0}{:}{!1z.0}{;}{$1a}{;}");
        s.fails(0, TemplateQuarry.TYPE);
        s.set(0, "{?n}{%n(n-1)}{@0}{:}{!11,2}{;}{$1a}{;}");
        s.fails(0, TemplateQuarry.MACRO);
        s.set(0, "{?n}{%n(n-1)}{@0}{:}{!1}{;}{$1a=z.0}{;}");
        s.fails(0, TemplateQuarry.TYPE);
        s.set(0, "{?n}{%n(n-1)}{@0}{:}{!1}{;}{$1a=1}{=z}{;}");
        s.fails(0, TemplateQuarry.DEPTH);
    }

    private static void notOpen() {
        Sheet s = new Sheet();
        Sheet.says("open within one another");
        s.list('l', "1", "2", "3", "4", "5", "6", "7", "8").set(1, "{#1}{!1}{k1}{;}{;}{$1}x{;}");
        s.puts("{*al}{*bl}{@1}{;}{;}", "x".repeat(64));
        s.set(2, "{?n}{%n(n-1)}{@2}{:}{=z}{;}").number('n', 12);
        s.puts("{*al}{+}{@2}{:}{%n(n-1)}{+}{@2}{:}x{;}{;}{;}", "xxxxxxxx");
        // neither choices nor loops nor tries
        s.puts("{?1}{?1}{?1}{?1}{?1}{?1}{?1}{#1}x{;}{;}{;}{;}{;}{;}{;}{;}", "x");
        s.set(3, "{?n}{%n(n-1)}{?1}{*bo}{+}{?1}{@3}{;}{:}no{;}{;}{;}{:}x{;}").list('o', "1").number('n', 12);
        s.renders(3, "x");
        s.number('n', 13);
        s.renders(3, "no");
    }

    private static void renders(Sheet s, int template, String want, int hits, int kept) {
        s.renders(template, want);
        Sheet.due("hits of " + want, s.x.hits(), hits);
        Sheet.due("kept of " + want, s.x.kept(), kept);
    }

    private static void hitsAndKept() {
        Sheet s = new Sheet();
        Sheet.says("Returns how many fragments are kept.");
        Sheet.due("none", s.x.kept(), 0);
        s.set(0, "{k0}{k1}{k2}{k3}{k4}{;}{;}{;}{;}{;}").set(1, "{k5}{k6}{k7}{k8}{k9}x{;}{;}{;}{;}{;}").set(2, "{k9}y{;}");
        renders(s, 0, "", 0, 5);
        renders(s, 1, "x", 0, 10);
        renders(s, 1, "x", 1, 10);
        renders(s, 2, "y", 0, 10);
        renders(s, 0, "", 1, 10);
        Sheet.says("Returns how many kept fragments were put out in the latest rendering, those that were taken back included.");
        Sheet sheet = new Sheet();
        sheet.set(0, "{k1}a{;}{k2}b{;}{k3}{;}").set(1, "{+}{@0}{=z}{:}{@0}{;}").set(2, "x").set(3, "{@0}{=z}");
        renders(sheet, 0, "ab", 0, 3);
        renders(sheet, 0, "ab", 3, 3);
        renders(sheet, 2, "x", 0, 3);
        renders(sheet, 1, "ab", 6, 3);
        sheet.fails(3, TemplateQuarry.NOTHING);
        Sheet.due("hits", sheet.x.hits(), 3);
        Sheet.throwsDue("no such template", IndexOutOfBoundsException.class, () -> sheet.x.render(10));
        Sheet.due("hits stay", sheet.x.hits(), 3);
    }

    private static void sameTag() {
        Sheet s = new Sheet();
        Sheet.says("If there is a fragment d of this very tag");
        s.set(0, "{k1}a{;}").set(1, "{k1}a{;}").set(2, "{k1}a{;}{k1}a{;}").set(3, "{k1}{k1}a{;}{;}");
        renders(s, 0, "a", 0, 1);
        renders(s, 0, "a", 1, 1);
        renders(s, 1, "a", 0, 1);
        renders(s, 0, "a", 0, 1);
        renders(s, 2, "aa", 0, 1);
        renders(s, 2, "aa", 0, 1);
        // the outer one is kept behind the inner one, and so stays
        renders(s, 3, "a", 0, 1);
        renders(s, 3, "a", 1, 1);
    }

    private static void sameLine() {
        Sheet s = new Sheet();
        Sheet.says("it was rendered with the same templates in the line");
        s.set(0, "{k1}{#1}a{;}{;}").set(1, "{<0}").set(2, "{<1}").set(3, "{<0}").set(4, "{@0}{@1}{@0}{@0}").set(5, "{$1}{k2}m{;}{;}{!1}");
        s.set(6, "{<5}");
        renders(s, 0, "a", 0, 1);
        renders(s, 1, "a", 0, 1);
        renders(s, 2, "a", 0, 1);
        renders(s, 2, "a", 1, 1);
        renders(s, 1, "a", 0, 1);
        renders(s, 3, "a", 0, 1);
        renders(s, 4, "aaaa", 1, 1);
        renders(s, 0, "a", 1, 1);
        renders(s, 5, "m", 0, 2);
        renders(s, 6, "m", 0, 2);
        renders(s, 6, "m", 1, 2);
        renders(s, 5, "m", 0, 2);
    }

    private static void sameContextAndWait() {
        Sheet s = new Sheet();
        s.text('t', "<");
        Sheet.says("it began with this context and wait");
        s.set(0, "{k1}{=t} {;}").set(1, "<b {@0}").set(2, "<b \"{@0}").set(3, "{-}{@0}").set(4, "x {-}{@0}").set(5, "x{@0}");
        renders(s, 0, "&l; ", 0, 1);
        renders(s, 5, "x&l; ", 1, 1);
        renders(s, 3, "&l; ", 0, 1);
        renders(s, 4, "x&l; ", 1, 1);
        renders(s, 0, "&l; ", 0, 1);
        renders(s, 1, "<b  ", 0, 1);
        renders(s, 1, "<b  ", 1, 1);
        renders(s, 2, "<b \"&l; ", 0, 1);
        // a wait that goes on behind a fragment without characters
        s.set(6, "a{-}{k2} {;} b").set(7, "a{-}{k2}{;}{k2} {;} b").set(8, "a{k3} {;}{-}b");
        s.renders(6, "ab");
        s.renders(6, "ab");
        Sheet.due("hits", s.x.hits(), 1);
        s.renders(7, "ab");
        s.renders(8, "ab");
        s.renders(8, "ab");
        Sheet.due("hits", s.x.hits(), 1);
    }

    private static void again(Sheet s, int want) {
        s.x.render(0);
        Sheet.due("hits", s.x.hits(), want);
    }

    private static void sameValues() {
        Sheet s = new Sheet();
        Quarry x = s.x;
        Sheet.says("and all these variables have values alike, and safe just as then, what was kept is put out instead");
        s.set(0, "{k1}{?a}{;}{;}");
        again(s, 0);
        again(s, 1);
        s.number('a', 0);
        again(s, 0);
        again(s, 1);
        s.text('a', "");
        again(s, 0);
        x.list('a');
        again(s, 0);
        x.list('a');
        again(s, 1);
        x.clear('a');
        again(s, 0);
        s.number('a', Integer.MIN_VALUE);
        again(s, 0);
        s.number('a', Integer.MAX_VALUE);
        again(s, 0);
        s.text('a', "ab");
        again(s, 0);
        s.text('a', "ab");
        again(s, 1);
        for (String text : new String[] {"abc", "ab", "aB", "bb", "a"}) {
            s.text('a', text);
            again(s, 0);
        }
        s.list('a', "1", "x", "2");
        again(s, 0);
        s.list('a', "1", "x", "2");
        again(s, 1);
        String[][] lists = {{"1", "x"}, {"1", "x", "2"}, {"1", "y", "2"}, {"1", "x", "3"}, {"x", "1", "3"}, {"1", "x", "3", "3"}};
        for (String[] list : lists) {
            s.list('a', list);
            again(s, 0);
        }
        s.number('b', 0).text('t', "x");
        s.set(0, "{?b}{%at|r}{:}{%at}{;}{k1}{=a}{;}");
        again(s, 0);
        again(s, 1);
        s.number('b', 1);
        again(s, 0);
        again(s, 1);
        s.number('b', 0);
        again(s, 0);
    }

    private static void whatIsRead() {
        Sheet s = new Sheet();
        s.number('a', 1).number('b', 2).number('c', 3).list('l', "1", "2");
        Sheet.says("all variables that it read, but those set within it, with their values: once for each variable and place");
        s.set(0, "{k1}{=a}{?0}{=b}{;}{%c5}{=c}{*dl}{=d}{;}{;}");
        again(s, 0);
        s.number('b', 9).number('c', 9).number('d', 9);
        again(s, 1);
        s.number('a', 9);
        again(s, 0);
        s.x.add('l', 3);
        again(s, 0);
        // in a part that is not needed, in a part that is taken back, as an item
        s.set(0, "{k1}{=(1?a)}{=(0&b)}{=1|dc}{+}{=d}{=z}{:}{;}{=l.0}{;}");
        again(s, 0);
        s.number('a', 8).number('b', 8).number('c', 8);
        again(s, 1);
        s.number('d', 8);
        again(s, 0);
        again(s, 1);
        s.number('z', 1);
        again(s, 0);
        s.x.add('l', 3);
        again(s, 0);
        again(s, 1);
        Sheet.says("(a scope or the data) where it was looked for first");
        s.set(0, "{$1}{=a}{;}{%ab}{k1}{=a}{!1}{;}").number('a', 1).number('b', 2);
        s.renders(0, "21");
        again(s, 1);
        s.number('a', 5);
        s.renders(0, "25");
        Sheet.due("hits", s.x.hits(), 0);
        s.number('b', 6);
        s.renders(0, "65");
        Sheet.due("hits", s.x.hits(), 0);
        again(s, 1);
        // a macro's parameters are set within it, what its arguments and defaults read is not
        s.set(0, "{$1xy=c}{=x}{=y}{;}{%cb}{k1}{!1a}{;}");
        s.renders(0, "58");
        s.number('b', 7).number('x', 7).number('y', 7);
        again(s, 1);
        s.number('a', 4);
        s.renders(0, "48");
        Sheet.due("hits", s.x.hits(), 0);
        s.number('c', 3);
        s.renders(0, "43");
        Sheet.due("hits", s.x.hits(), 0);
        // a fragment in a macro sees its parameters
        s.set(0, "{$1x}{k1}{=x}{;}{;}{!11}{!11}{!12}{!12}");
        s.renders(0, "1122");
        Sheet.due("hits", s.x.hits(), 2);
    }

    private static void notKept() {
        Sheet s = new Sheet();
        Sheet.says("It is not kept if {~} or {-} was met in it.");
        String[] texts = {"{k1}x{-}{;}", "{k1}x{~}{;}", "{k1}{?1}{-}{;}x{;}", "{k1}{+}{-}{=z}{:}x{;}{;}", "{$1}{-}{;}{k1}{!1}x{;}",
            "{$1}{~}{;}{k1}{&1}x{;}{;}", "{$1}{~}{;}{k1}{!1}x{;}", "{k1}{#1}{-}{;}x{;}", "{k1}x{@9}{;}"};
        s.set(9, "{-}");
        for (String text : texts) {
            s.set(0, text);
            renders(s, 0, "x", 0, 0);
            renders(s, 0, "x", 0, 0);
        }
        String[] kept = {"{k1}x{?0}{-}{;}{;}", "{-}{k1}x{;}{-}", "{$1}{k1}x{;}{~}{;}{&1}{;}", "{$1}{~}{;}{&1}{k1}x{;}{;}", "{k1}x{$1}{-}{~}{;}{;}"};
        for (String text : kept) {
            s.set(0, text);
            renders(s, 0, "x", 0, 1);
            renders(s, 0, "x", 1, 1);
        }
        // in one within another it is met in both; what was met ahead of the inner one, only in the outer one
        s.set(0, "{k1}{k2}x{-}{;}{;}");
        renders(s, 0, "x", 0, 0);
        s.set(0, "{k1}{-}{k2}x{;}{;}");
        renders(s, 0, "x", 0, 1);
        s.set(0, "{k1}{k2}x{;}{-}{;}");
        renders(s, 0, "x", 0, 1);
        renders(s, 0, "x", 1, 1);
    }

    private static void withinAnother() {
        Sheet s = new Sheet();
        s.number('a', 1).number('b', 2);
        Sheet.says("What a kept fragment within it had read, that was put out, counts as read by it.");
        s.set(0, "{k1}{k2}{=a}{;}{=b}{;}");
        renders(s, 0, "12", 0, 2);
        renders(s, 0, "12", 1, 2);
        Sheet.due("the outer one is put out", s.x.spent(), 1);
        s.number('b', 3);
        renders(s, 0, "13", 1, 2);
        Sheet.due("the inner one is put out", s.x.spent(), 3);
        s.number('c', 3);
        renders(s, 0, "13", 1, 2);
        Sheet.due("nothing else counts as read", s.x.spent(), 1);
        s.number('a', 4);
        renders(s, 0, "43", 0, 2);
        s.number('a', 4);
        renders(s, 0, "43", 1, 2);
        // rendered anew the inner one reads for both, too
        s.number('a', 5);
        renders(s, 0, "53", 0, 2);
        s.number('a', 6);
        renders(s, 0, "63", 0, 2);
        s.set(0, "{k1}{k2}{k3}{=a}{;}{;}{;}");
        renders(s, 0, "6", 0, 3);
        s.number('a', 4);
        renders(s, 0, "4", 0, 3);
        renders(s, 0, "4", 1, 3);
        // of all letters, looked for in a scope and in the data
        for (char v = 'b'; v <= 'z'; v++) {
            s.set(0, "{$1}{=" + v + "}{;}{k1}{k2}{=" + v + "}{;}{k3}{!1}{;}{=a}{;}").number('a', 1).number(v, 1);
            renders(s, 0, "111", 0, 3);
            s.number('a', 2);
            renders(s, 0, "112", 2, 3);
            s.number(v, 2);
            renders(s, 0, "222", 0, 3);
            s.set(0, "{$1}{=" + v + "}{;}{%" + v + "'x'}{k1}{k3}{!1}{;}{=a}{;}");
            renders(s, 0, "22", 0, 2);
            s.number('a', 1);
            renders(s, 0, "21", 1, 2);
            s.number(v, 1);
            renders(s, 0, "11", 0, 2);
        }
        s.number('a', 6).number('b', 3);
        // set between them, it is none of the outer one's
        s.set(0, "{k1}{%a5}{k2}{=a}{;}{=b}{;}");
        renders(s, 0, "53", 0, 2);
        s.number('b', 6);
        renders(s, 0, "56", 1, 2);
        s.number('a', 9);
        renders(s, 0, "56", 1, 2);
        // what the inner one read of the data in a macro, the outer one has read there too
        s.set(0, "{$1}{=a}{;}{k1}{%a5}{k2}{!1}{;}{=b}{;}");
        renders(s, 0, "96", 0, 2);
        s.number('b', 7);
        renders(s, 0, "97", 1, 2);
        Sheet.due("the inner one is put out", s.x.spent(), 4);
        s.number('x', 7);
        renders(s, 0, "97", 1, 2);
        Sheet.due("the outer one is put out", s.x.spent(), 1);
        s.number('a', 8);
        renders(s, 0, "87", 0, 2);
        // in a macro within the outer one, its parameters are none of it
        s.set(0, "{$1a}{k2}{=a}{;}{;}{k1}{!15}{=b}{;}");
        renders(s, 0, "57", 0, 2);
        s.number('b', 8);
        renders(s, 0, "58", 1, 2);
        s.number('a', 1);
        renders(s, 0, "58", 1, 2);
    }

    private static void goneAndStaying() {
        Sheet s = new Sheet();
        Sheet.says("A fragment that is kept stays kept, whatever fails later.");
        s.set(0, "{k1}x{;}{=z}").set(1, "{+}{k2}y{;}{=z}{:}{;}").set(2, "{k3}{k4}a{;}{=z}{;}").set(3, "{k5}x{;}abcdefgh");
        s.fails(0, TemplateQuarry.NOTHING);
        Sheet.due("kept", s.x.kept(), 1);
        s.renders(1, "");
        Sheet.due("kept", s.x.kept(), 2);
        s.fails(2, TemplateQuarry.NOTHING);
        Sheet.due("kept, but for the one in which it fails", s.x.kept(), 3);
        s.x.budget(5);
        s.fails(3, TemplateQuarry.STEPS);
        Sheet.due("kept", s.x.kept(), 4);
        s.fails(0, TemplateQuarry.NOTHING);
        Sheet.due("hits", s.x.hits(), 1);
        s.x.budget(1000);
        Sheet.says("All fragments go when a template or a message is changed.");
        s.number('q', 1).text('r', "x").list('s').x.budget(1000);
        s.x.shape('a', 1);
        s.x.wipe();
        Sheet.due("kept", s.x.kept(), 4);
        s.set(9, "");
        Sheet.due("none with a template that is set", s.x.kept(), 0);
        s.set(4, "{k0}{k1}{k2}{k3}{k4}{;}{;}{;}{;}{;}{k5}{k6}{k7}{k8}{k9}{;}{;}{;}{;}{;}");
        for (int pass = 0; pass < 2; pass++) {
            s.renders(4, "");
            Sheet.due("all ten", s.x.kept(), 10);
            if (pass == 0) s.x.template(5);
            else s.x.message(0, 0);
            Sheet.due("none of them", s.x.kept(), 0);
        }
        s.fails(0, TemplateQuarry.NOTHING);
        Sheet.due("hits", s.x.hits(), 0);
        Sheet.due("kept", s.x.kept(), 1);
        s.type("m").x.message(9, 1);
        Sheet.due("none with a message that is set", s.x.kept(), 0);
        s.fails(0, TemplateQuarry.NOTHING);
        s.type("}");
        Sheet.throwsDue("no template", IllegalArgumentException.class, () -> s.x.template(9));
        Sheet.throwsDue("no such form", IllegalArgumentException.class, () -> s.x.message(9, 2));
        Sheet.throwsDue("no such message", IndexOutOfBoundsException.class, () -> s.x.message(10, 0));
        Sheet.due("kept", s.x.kept(), 1);
    }
}
