/** Promises 7 to 12: the data, and what expressions make of them. */
public final class DataTest {
    private static final String LONG = "1234567890".repeat(4);

    public static void main(String[] args) {
        names();
        values();
        lists();
        operators();
        filters();
        Sheet.end();
    }

    private static void names() {
        Sheet s = new Sheet();
        Quarry x = s.x;
        s.type("t");
        for (int c : new int[] {0, 'A', 'a' - 1, 'z' + 1, 65535}) {
            char name = (char) c;
            Sheet.throwsDue("number", IllegalArgumentException.class, () -> x.number(name, 1));
            Sheet.throwsDue("text", IllegalArgumentException.class, () -> x.text(name));
            Sheet.throwsDue("list", IllegalArgumentException.class, () -> x.list(name));
            Sheet.throwsDue("add", IllegalArgumentException.class, () -> x.add(name, 1));
            Sheet.throwsDue("addText", IllegalArgumentException.class, () -> x.addText(name));
            Sheet.throwsDue("clear", IllegalArgumentException.class, () -> x.clear(name));
        }
        Sheet.due("the text stays", x.wipe(), 1);
        for (char c = 'a'; c <= 'z'; c++) x.number(c, c);
        s.puts("{=a}{=m}{=z}", "97109122");
    }

    private static void values() {
        Sheet s = new Sheet();
        s.number('a', Integer.MIN_VALUE).number('b', Integer.MAX_VALUE).number('c', 0);
        s.puts("{=a} {=b} {=c}", "-2147483648 2147483647 0");
        s.type(LONG + "abc");
        Sheet.due("text", s.x.text('a'), 40);
        Sheet.due("the text is empty then", s.x.wipe(), 0);
        s.puts("{=a}", LONG);
        Sheet.due("an empty text", s.x.text('b'), 0);
        s.puts("[{=b}]{=b|l}", "[]0");
        Sheet.due("clear", s.x.clear('b') ? 1 : 0, 1);
        Sheet.due("clear again", s.x.clear('b') ? 1 : 0, 0);
        s.fails("{=b}", TemplateQuarry.NOTHING);
        s.fails("{=z}", TemplateQuarry.NOTHING);
        s.x.list('l');
        s.fails("{=l}", TemplateQuarry.TYPE);
        Sheet.due("clear a list", s.x.clear('l') ? 1 : 0, 1);
        Sheet.due("clear a number", s.x.clear('c') ? 1 : 0, 1);
        // truth
        s.number('o', 0).number('p', -1).text('q', "").text('r', "0").list('s').list('t', "0");
        s.puts("{=!z}{=!o}{=!p}{=!q}{=!r}{=!s}{=!t}", "1101010");
        s.puts("{?p}1{:}0{;}{?o}1{:}0{;}{?z}1{;}", "10");
    }

    private static void lists() {
        Sheet s = new Sheet();
        Quarry x = s.x;
        s.type("t");
        Sheet.throwsDue("add to nothing", IllegalStateException.class, () -> x.add('l', 1));
        Sheet.throwsDue("addText to nothing", IllegalStateException.class, () -> x.addText('l'));
        Sheet.due("the text stays", x.wipe(), 1);
        x.number('l', 1);
        Sheet.throwsDue("add to a number", IllegalStateException.class, () -> x.add('l', 1));
        x.list('l');
        for (int i = 1; i <= 6; i++) Sheet.due("add", x.add('l', -i), i);
        s.type("<" + LONG);
        Sheet.due("addText", x.addText('l'), 7);
        Sheet.due("the text is empty then", x.wipe(), 0);
        Sheet.due("addText", x.addText('l'), 8);
        s.type("u");
        Sheet.throwsDue("a ninth", IllegalStateException.class, () -> x.add('l', 1));
        Sheet.throwsDue("a ninth", IllegalStateException.class, () -> x.addText('l'));
        Sheet.due("the text stays", x.wipe(), 1);
        s.puts("{=l.0}{=l.5}{=l.6}{=l.7}|{=l.6|l}{=l|l}", "-1-6&l;" + LONG.substring(0, 39) + "|408");
        s.fails("{=l.8}", TemplateQuarry.INDEX);
        s.fails("{=l.9}", TemplateQuarry.INDEX);
        x.list('l');
        s.fails("{=l.0}", TemplateQuarry.INDEX);
        s.fails("{=z.0}", TemplateQuarry.TYPE);
        x.number('l', 3);
        s.fails("{=l.0}", TemplateQuarry.TYPE);
    }

    private static void operators() {
        Sheet s = new Sheet();
        s.number('a', 7).number('b', -3).number('m', Integer.MAX_VALUE).number('i', Integer.MIN_VALUE);
        s.text('s', "ab").text('t', "abc").text('u', "<").list('l', "1", "x").list('k', "1", "x").list('j', "1");
        s.puts("{=(a+b)} {=(a-b)} {=(a*b)} {=(a<b)}{=(b<a)}{=(a<a)} {=(a=7)}{=(a=b)}", "4 10 -21 010 10");
        s.fails("{=(m+1)}", TemplateQuarry.NUMBER);
        s.fails("{=(i-1)}", TemplateQuarry.NUMBER);
        s.fails("{=(m*2)}", TemplateQuarry.NUMBER);
        s.fails("{=(i*(0-1))}", TemplateQuarry.NUMBER);
        s.puts("{=(m+i)}{=((i+1)*(0-1))}{=(i-i)}", "-121474836470");
        s.puts("{=(s+t)}{=('<'+'>')}{=('<'+u)}", "ababc<>&l;&l;");
        s.puts("{=(s<t)}{=(t<s)}{=(s<s)}{=('B'<'a')}{=('b'<'ab')}{=(''<s)}{=(s<'')}", "1001010");
        s.puts("{=(s='ab')}{=(s=t)}{=(l=k)}{=(l=j)}{=(z=y)}{=(z=0)}{=(''=z)}{=(1='1')}{=(l.0=1)}", "101010001");
        s.list('o').puts("{=(l=1)}{=(1=l)}{=(o=z)}{=(z=o)}{=(o=o)}{=(l=s)}{=(s=l)}{=(a=l)}", "00001000");
        s.puts("{=(a&b)}{=(a&0)}{=(0&a)}{=(z&z.1)}{=!a}{=!z}{=!l}{=!!a}", "10000101");
        s.puts("{=(a?z.1)}{=(0?s)}{=('<b>'?1)}{=(z?(''?5))}", "7ab<b>5");
        s.fails("{=(z?y)}", TemplateQuarry.NOTHING);
        s.fails("{=(0?z.1)}", TemplateQuarry.TYPE);
        s.fails("{=(1&z.1)}", TemplateQuarry.TYPE);
        for (String e : new String[] {"(a+s)", "(s+a)", "(z+z)", "(l+l)", "(s-t)", "(s*2)", "(a-z)", "(a<s)", "(z<z)", "(l<l)"}) {
            s.fails("{=" + e + "}", TemplateQuarry.TYPE);
        }
        // the second one is found even if the first one has a wrong kind
        s.fails("{=(z-l.9)}", TemplateQuarry.INDEX);
        // 300 characters are enough, 301 are not
        s.text('a', LONG);
        s.puts("{%b((a+a)+a)}{=((b+b)+(a+'12345678901234567890'))|l}", "300");
        s.fails("{%b((a+a)+a)}{=((b+b)+(a+'123456789012345678901'))|l}", TemplateQuarry.FULL);
        s.puts("{=0012}{=9999}", "129999");
    }

    private static void filters() {
        Sheet s = new Sheet();
        s.text('t', "aZ<z9~").number('n', 4).list('l', "1", "a<", "-20").list('m', "1", "-2");
        s.list('o');
        s.puts("{=t|u} {='<a'|u} {=t|l}{=l|l}{=''|l}", "AZ&l;Z9~ <A 630");
        s.puts("{=t|r}{=t|r|u}{=(t|r+'<')}", "aZ<z9~AZ<Z9~aZ<z9~<");
        s.puts("{=l|j} {=m|j} [{=o|j}]", "1,a&l;,-20 1,-2 []");
        // of numbers alone the text is safe, and so is what it makes with a safe one
        s.puts("{=(m|j+'<')}", "1,-2<");
        s.puts("{=(l|j+'<')}", "1,a&l;,-20&l;");
        s.puts("{=(o|j+'<')}", "<");
        s.list('q', "x".repeat(40), "y".repeat(40), "x".repeat(40), "y".repeat(40), "x".repeat(40), "y".repeat(40), "z".repeat(40));
        s.puts("{=q|j|l}", "286");
        s.type("w".repeat(13));
        s.x.addText('q');
        s.puts("{=q|j|l}", "300");
        s.list('q', "x".repeat(40), "y".repeat(40), "x".repeat(40), "y".repeat(40), "x".repeat(40), "y".repeat(40), "z".repeat(40), "w".repeat(14));
        s.fails("{=q|j|l}", TemplateQuarry.FULL);
        s.puts("{='12'|n}{='-3'|n}{='123456789'|n}{='-000000001'|n}{='-0'|n}", "12-3123456789-10");
        for (String no : new String[] {"", "-", "--1", "1-", "+1", "1234567890", " 1", "1a", "a"}) {
            s.puts("{='" + no + "'|n|d'no'}", "no");
        }
        s.puts("{=z|d5}{=n|dz.1}{=0|d5}{=''|d5}{=z|d(n+1)}{=z|d'a'|u}{=z|d!t|l}", "5405A0");
        s.fails("{=z|dy}", TemplateQuarry.NOTHING);
        s.fails("{=z|dy.1}", TemplateQuarry.TYPE);
        // not takes all filters that follow
        s.puts("{=!t|l}{=!''|l}", "01");
        for (String e : new String[] {"n|u", "n|l", "n|r", "n|n", "n|j", "z|u", "z|l", "z|r", "z|n", "z|j", "l|u", "l|r", "l|n", "t|j"}) {
            s.fails("{=" + e + "}", TemplateQuarry.TYPE);
        }
    }
}
