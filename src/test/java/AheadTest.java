/** Promises 24 to 26: looking ahead. */
public final class AheadTest {
    private static final int NOTHING = 1, NUMBER = 2, TEXT = 4, LIST = 8;

    public static void main(String[] args) {
        mayEnd();
        shape();
        tagsThatMayFail();
        wrongKinds();
        kindsOfResults();
        bodies();
        noKindLeft();
        Sheet.end();
    }

    private static void mayEnd() {
        Sheet s = new Sheet();
        int[] all = {0, 1, 2, 3, 4, 5, 6, 7};
        Sheet.throwsDue("no template", IndexOutOfBoundsException.class, () -> s.x.mayEnd(10));
        Sheet.throwsDue("no template", IndexOutOfBoundsException.class, () -> s.x.mayEnd(-1));
        s.mayEnd("", 0);
        s.mayEnd("a>\"'s", 0);
        s.mayEnd("<", 1);
        s.mayEnd("<b", 2);
        s.mayEnd("<b\"", 3);
        s.mayEnd("<s", 4);
        s.mayEnd("<s\"", 5);
        s.mayEnd("<s>", 6);
        s.mayEnd("<s>'", 7);
        s.mayEnd("< ", 1, 2);
        s.mayEnd("< s", 2, 4);
        s.mayEnd("<b{-}", 1, 2);
        s.mayEnd("<{-}", 1);
        s.mayEnd("<b{-}s>", 0, 6);
        s.mayEnd("{=a}", 0);
        s.mayEnd("<{=a}", 1, 2);
        s.mayEnd("<s>{=a}", 6);
        s.mayEnd("{='a'}", all);
        s.mayEnd("{=(a|d''+1)}", all);
        s.mayEnd("{=a|r|l}", all);
        s.mayEnd("{=!(1?(a|r=2))}", all);
        s.mayEnd("{=a|u|d(b|j+c.1)}", 0);
        s.mayEnd("{=a}{$1}{%a1}{;}", all);
        s.mayEnd("{%b1}{=a}{=1}", 0);
        s.mayEnd("{%b1}{=b.1}", all);
        s.mayEnd("{=(a+b)}{%b1}", all);
        for (String t : new String[] {"{t11}", "{#1}{;}", "{^}", "{@1}", "{!1}", "{&1}{;}", "{~}"}) {
            s.mayEnd(t, all);
            s.mayEnd("{$1}" + t + "{;}", 0);
            s.mayEnd(t + "<", 1, 2, 3, 4, 5, 7);
        }
        s.mayEnd("{?a}<{;}", 0, 1);
        s.mayEnd("{?a}<{:}<s>'{;}", 1, 7);
        s.mayEnd("<{?a}s{:}b{;}>", 0, 6);
        s.mayEnd("{+}<b{:}<{;}", 1, 2);
        s.mayEnd("<{+}b{:}{;}", 1, 2);
        s.mayEnd("{*al}<{;}", 0, 1, 2);
        s.mayEnd("{*al}<{:}<s{;}", 1, 2, 4);
        s.mayEnd("{*al}<s>'{;}", 0, 6, 7);
        s.mayEnd("{*al}{*bl}<{;}s{;}", 0, 2, 4);
        s.mayEnd("{*al}{:}<{;}", 0, 1);
        s.mayEnd("{k1}<s{;}>", 6);
        s.mayEnd("{<1}<", 1);
        s.mayEnd("<{%a1}{$1}s{;}", 1);
    }

    private static void shape() {
        Sheet s = new Sheet();
        for (int k : new int[] {0, -1, 16, Integer.MAX_VALUE, Integer.MIN_VALUE}) {
            Sheet.throwsDue("shape", IllegalArgumentException.class, () -> s.x.shape('a', k));
        }
        for (int c : new int[] {0, 'a' - 1, 'z' + 1, 65535}) {
            Sheet.throwsDue("shape", IllegalArgumentException.class, () -> s.x.shape((char) c, 3));
        }
        for (char c = 'a'; c <= 'z'; c++) Sheet.due("shape", s.x.shape(c, c % 15 + 1), 15);
        for (char c = 'a'; c <= 'z'; c++) Sheet.due("shape", s.x.shape(c, 15), c % 15 + 1);
        Sheet.throwsDue("no template", IndexOutOfBoundsException.class, () -> s.x.check(10));
        Sheet.throwsDue("no template", IndexOutOfBoundsException.class, () -> s.x.check(-1));
    }

    /** Each of the fifteen sets of kinds of a: the text fails at a place by those that are not all fine. */
    private static void failsBy(Sheet s, String text, int place, int fine) {
        s.set(9, text);
        for (int kinds = 1; kinds <= 15; kinds++) {
            s.x.shape('a', kinds);
            Sheet.due("check of " + text + " by " + kinds, s.x.check(9), (kinds & ~fine) == 0 ? -1 : place);
        }
    }

    private static void failsBy(Sheet s, String text, int fine) {
        failsBy(s, text, 0, fine);
    }

    private static void tagsThatMayFail() {
        Sheet s = new Sheet();
        failsBy(s, "{=a}", NUMBER | TEXT);
        failsBy(s, "x{t0a}", 1, NUMBER);
        failsBy(s, "{*ba}{;}", LIST);
        failsBy(s, "{%ba}", 15);
        failsBy(s, "{?a}{;}", 15);
        failsBy(s, "{!0a}{&0a}{;}", 15);
        failsBy(s, "{=1}{@1}{^}{~}{-}{#1}{;}{=a}", 24, NUMBER | TEXT);
        // the first tag counts
        s.x.shape('a', 15);
        s.check("{=1}{=a}{=a}", 4);
        s.check("{=1}{?a|l}{=a}{;}", 4);
        s.check("", -1);
    }

    private static void wrongKinds() {
        Sheet s = new Sheet();
        failsBy(s, "{%b(a-1)}", NUMBER);
        failsBy(s, "{%b(1*a)}", NUMBER);
        failsBy(s, "{%b(a+1)}", NUMBER);
        failsBy(s, "{%b('x'+a)}", TEXT);
        failsBy(s, "{%b(a<1)}", NUMBER);
        failsBy(s, "{%b('x'<a)}", TEXT);
        failsBy(s, "{%b(a=1)}", 15);
        failsBy(s, "{%b(a&1)}", 15);
        failsBy(s, "{%b(a?1)}", 15);
        failsBy(s, "{%b!a}", 15);
        failsBy(s, "{%ba|u}", TEXT);
        failsBy(s, "{%ba|r}", TEXT);
        failsBy(s, "{%ba|l}", TEXT | LIST);
        failsBy(s, "{%ba|j}", LIST);
        failsBy(s, "{%ba|n}", TEXT);
        failsBy(s, "{%ba|d1}", 15);
        failsBy(s, "{%ba.1}", LIST);
        // wherever it stands
        failsBy(s, "{?!a|l}{;}", TEXT | LIST);
        failsBy(s, "{?(0&a|n)}{;}", TEXT);
        failsBy(s, "{?(1?a|n)}{;}", TEXT);
        failsBy(s, "{?1|d(a-1)}{;}", NUMBER);
        failsBy(s, "{*b(c?a|j)}{;}", 0, 0);
        failsBy(s, "{t1a.1}", 0, 0);
        failsBy(s, "{!1b,c:a|j}", LIST);
        failsBy(s, "{&1b,c:a|j}{;}", LIST);
        // + and < take numbers or texts, but both the same
        for (int a = 1; a <= 15; a++) {
            for (int b = 1; b <= 15; b++) {
                s.x.shape('a', a);
                s.x.shape('b', b);
                boolean fine = a == b && (a == NUMBER || a == TEXT);
                if (a != 15 && b > 5 && !fine) continue;
                s.check("x{%c(a+b)}", fine ? -1 : 1);
                s.check("x{%c(a<b)}", fine ? -1 : 1);
            }
        }
        // macros are not looked at, nor their parameters
        s.check("{$1b=a.1}{=z}{;}{=1}{#1}{=z}{;}", 24);
    }

    private static void kindsOfResults() {
        Sheet s = new Sheet();
        s.x.shape('n', NUMBER);
        s.x.shape('t', TEXT);
        s.x.shape('l', LIST);
        s.x.shape('o', NOTHING);
        s.x.shape('p', NOTHING | NUMBER);
        s.x.shape('q', NOTHING | TEXT);
        s.x.shape('m', NUMBER | LIST);
        String[] numbers = {"1", "n", "(n+n)", "(n-1)", "(n*n)", "(n<n)", "(t<t)", "(a=b)", "(a&b)", "!a", "t|l", "l|l", "t|n|d1", "p|dn", "(p?n)",
            "(o?n)", "o|dn", "(n?n)"};
        for (String e : numbers) {
            s.check("{%x" + e + "}{%y(x-1)}{t1x}{=x}", -1);
        }
        String[] texts = {"'a'", "t", "(t+t)", "t|u", "t|r", "l|j", "q|d'x'", "(q?t)", "(o?t)", "o|dt"};
        for (String e : texts) {
            s.check("{%x" + e + "}{%yx|u}{=x}", -1);
            s.check("{%x" + e + "}{t1x}", e.length() + 4);
        }
        // an item is a number or a text
        s.check("{%xl.0}{=x}", -1);
        s.check("{%xl.0}{%yx|u}", 7);
        s.check("{%xl.0}{t1x}", 7);
        // a text may be no number
        s.check("{%xt|n}{=x}", 7);
        s.check("{%xt|n}{?x}{=x}{t1x}{;}", -1);
        // what a choice or a default leaves
        s.check("{%x(p?t)}{=x}", -1);
        s.check("{%x(p?t)}{t1x}", 9);
        s.check("{%x(p?t)}{%yx|u}", 9);
        s.check("{%x(n?p)}{=x}", 9);
        s.check("{%xn|do}{=x}", 8);
        s.check("{%x(m?l)}{*bx}{;}", 9);
        s.check("{%xl}{*bx}{;}", -1);
    }

    private static void bodies() {
        Sheet s = new Sheet();
        s.x.shape('a', NOTHING | NUMBER);
        s.x.shape('l', LIST);
        s.x.shape('b', LIST);
        s.check("{?a}{=a}{;}", -1);
        s.check("{?a}{=a}{:}{=a}{;}", 11);
        s.check("{?a}{;}{=a}", 7);
        s.check("{?(a=a)}{=a}{;}", 8);
        s.check("{?a|d1}{=a}{;}", 7);
        s.check("{?!a}{=a}{;}", 5);
        s.check("{?a}{?1}{=a}{#1}{=a}{;}{;}{;}", -1);
        s.check("{*bl}{=b}{;}", -1);
        s.check("{*bl}{t1b}{;}", 5);
        s.check("{*bl}{%bb|u}{;}", 5);
        s.check("{*bl}{:}{=b}{;}", 8);
        s.check("{*bl}{;}{=b}", 8);
        s.check("{%a1}{=a}", -1);
        s.check("{%al}{*ca}{;}", -1);
        s.check("{=a}{%a1}", 0);
        // up to the end of the body in which it stands
        s.check("{?1}{%a1}{=a}{;}{=a}", 16);
        s.check("{?1}{%a1}{:}{=a}{;}", 12);
        s.check("{+}{%a1}{:}{=a}{;}", 11);
        s.check("{#1}{%a1}{;}{=a}", 12);
        s.check("{k1}{%a1}{;}{=a}", 12);
        s.check("{&1}{%a1}{;}{=a}", 12);
        s.check("{*bl}{%a1}{;}{=a}", 13);
        s.check("{%a1}{#1}{=a}{;}{k1}{=a}{;}{&1}{=a}{;}{+}{=a}{:}{=a}{;}{=a}", -1);
        s.check("{?a}{%az}{=a}{;}", 9);
        s.check("{$1}{%a1}{;}{=a}", 12);
        // in all bodies, in the order of the text
        for (String t : new String[] {"{?1}/{;}", "{?1}{:}/{;}", "{*bl}/{;}", "{*bl}{:}/{;}", "{+}/{:}{;}", "{+}{:}/{;}", "{#1}/{;}", "{&1}/{;}", "{k1}/{;}"}) {
            s.check(t.replace("/", "{=a}"), t.indexOf('/'));
        }
        s.check("{?a}{;}{?z|l}{=a}{:}{=a}{;}", 7);
        s.check("{<1}{=a}", 4);
    }

    private static void noKindLeft() {
        Sheet s = new Sheet();
        s.x.shape('a', NOTHING);
        // in the first body a has no kind left, so nothing that has it in it has a wrong one
        for (String e : new String[] {"a", "(a-'x')", "('x'*a)", "(a+l)", "(a<l)", "(a=1)", "(1&a)", "(z?a)", "(a?z)", "!a", "a|u", "a|l", "a|r", "a|j",
            "a|n", "a|dz", "z|da", "a.1", "(a.1-'x')", "((a-'x')+l)"}) {
            s.check("{?a}{=" + e + "}{t1" + e + "}{*b" + e + "}{;}{;}", -1);
        }
        // but what stands within it is looked at all the same
        s.check("{?a}{=(a-z|l)}{;}", 4);
        s.check("{?a}{=(z|l&a)}{;}", 4);
        s.check("{?a}{=a|d(z-1)}{;}", 4);
        s.check("{?a}{=(a?z.1)}{;}", 4);
        s.check("{?a}{;}{=a}", 7);
        s.check("{?a}{:}{=a}{;}", 7);
        // it is handed on
        s.check("{?a}{%ba}{=b}{=(b-1)}{*cb}{;}{;}", -1);
        s.check("{?a}{%az}{=a}{;}", 9);
    }
}
