/** Promises 7 to 12, Values and Expressions: each sentence that names a boundary case, by itself. */
public final class EdgesOfDataTest {
    private static final String FORTY = "abcdefghij".repeat(4);
    private static final int MOST = Integer.MAX_VALUE;
    private static final int LEAST = Integer.MIN_VALUE;
    private static final char[] NO_NAMES = {0, 'A', 'Z', '`', '{', 255, 'a' + 256, 65535};

    public static void main(String[] args) {
        numbers();
        texts();
        listsAndNames();
        adding();
        clearing();
        truth();
        variablesAndItems();
        sums();
        results();
        lessAndAlike();
        logic();
        choices();
        raised();
        lengths();
        safeTexts();
        joins();
        readNumbers();
        defaults();
        wrongKinds();
        Sheet.end();
    }

    private static void numbers() {
        Sheet s = new Sheet();
        Sheet.says("Sets a variable of the data to a number.");
        for (char v = 'a'; v <= 'z'; v++) s.x.number(v, v - 'm');
        for (char v = 'a'; v <= 'z'; v++) s.puts("{=" + v + "}", "" + (v - 'm'));
        Sheet.says("`value`: any int");
        for (int n : new int[] {0, 1, -1, 9, 10, -10, 99999, 1000000000, MOST, MOST - 1, LEAST, LEAST + 1}) {
            s.number('a', n).puts("{=a}", Integer.toString(n));
        }
        Sheet.says("Throws `IllegalArgumentException` if name is out of its range");
        s.type("t");
        for (char name : NO_NAMES) {
            Sheet.throwsDue("number", IllegalArgumentException.class, () -> s.x.number(name, 1));
            Sheet.throwsDue("text", IllegalArgumentException.class, () -> s.x.text(name));
            Sheet.throwsDue("list", IllegalArgumentException.class, () -> s.x.list(name));
            Sheet.throwsDue("add", IllegalArgumentException.class, () -> s.x.add(name, 1));
            Sheet.throwsDue("addText", IllegalArgumentException.class, () -> s.x.addText(name));
            Sheet.throwsDue("clear", IllegalArgumentException.class, () -> s.x.clear(name));
        }
        Sheet.due("the text stays", s.x.wipe(), 1);
    }

    private static void texts() {
        Sheet s = new Sheet();
        Sheet.says("Sets a variable of the data to the first 40 characters of the text, not safe; the text is empty then.");
        for (int n : new int[] {0, 1, 39, 40, 41, 80}) {
            String text = (FORTY + "x".repeat(40)).substring(0, n);
            s.type(text);
            Sheet.due("text of " + n, s.x.text('z'), Math.min(n, 40));
            Sheet.due("empty then", s.x.wipe(), 0);
            s.puts("{=z}{=z|l}", text.substring(0, Math.min(n, 40)) + Math.min(n, 40));
        }
        s.text('a', "<").puts("{=a}", "&l;");
        for (char v = 'a'; v <= 'z'; v++) s.text(v, "" + v + v);
        for (char v = 'a'; v <= 'z'; v++) s.puts("{=" + v + "}", "" + v + v);
    }

    private static void listsAndNames() {
        Sheet s = new Sheet();
        Sheet.says("Sets a variable of the data to a list without items.");
        for (char v : new char[] {'a', 'z'}) {
            s.x.list(v);
            s.puts("{=" + v + "|l}", "0");
            s.x.add(v, 5);
            s.x.list(v);
            s.puts("{=" + v + "|l}", "0");
        }
        s.number('n', 1).x.list('n');
        s.puts("{=n|l}", "0");
    }

    private static void adding() {
        Sheet s = new Sheet();
        Quarry x = s.x;
        Sheet.says("Throws `IllegalStateException` if it is no list, or has 8 items");
        s.number('n', 0).text('t', "");
        s.type("t");
        for (char v : new char[] {'n', 't', 'z'}) {
            Sheet.throwsDue("add to no list", IllegalStateException.class, () -> x.add(v, 1));
            Sheet.throwsDue("addText to no list", IllegalStateException.class, () -> x.addText(v));
        }
        Sheet.due("the text stays", x.wipe(), 1);
        Sheet.says("a list of at most 8 numbers and texts");
        x.list('l');
        for (int i = 1; i <= 7; i++) Sheet.due("add", x.add('l', i), i);
        s.type(FORTY + "more");
        Sheet.due("the eighth", x.addText('l'), 8);
        Sheet.due("the text is empty then", x.wipe(), 0);
        s.type("u");
        Sheet.throwsDue("a ninth", IllegalStateException.class, () -> x.add('l', 9));
        Sheet.throwsDue("a ninth", IllegalStateException.class, () -> x.addText('l'));
        Sheet.due("the text stays", x.wipe(), 1);
        s.puts("{=l|j}{=l|l}", "1,2,3,4,5,6,7," + FORTY + "8");
        Sheet.says("Adds the first 40 characters of the text, not safe, to a list of the data; the text is empty then.");
        for (int n : new int[] {0, 1, 40, 41, 80}) {
            x.list('l');
            s.type("<".repeat(n));
            Sheet.due("addText", x.addText('l'), 1);
            Sheet.due("empty then", x.wipe(), 0);
            s.puts("{=l.0|l} {=l.0}", Math.min(n, 40) + " " + "&l;".repeat(Math.min(n, 40)));
        }
        Sheet.says("Adds a number to a list of the data.");
        for (int n : new int[] {0, MOST, LEAST}) {
            x.list('l');
            Sheet.due("add", x.add('l', n), 1);
            s.puts("{=l.0}{=(l.0=" + (n == 0 ? "0)}" : "1)}"), n + (n == 0 ? "1" : "0"));
        }
    }

    private static void clearing() {
        Sheet s = new Sheet();
        Quarry x = s.x;
        Sheet.says("Returns whether it was anything else.");
        for (char v : new char[] {'a', 'z'}) {
            Sheet.due("nothing", x.clear(v), false);
            s.number(v, 0);
            Sheet.due("0", x.clear(v), true);
            s.text(v, "");
            Sheet.due("a text without characters", x.clear(v), true);
            x.list(v);
            Sheet.due("a list without items", x.clear(v), true);
            Sheet.due("nothing again", x.clear(v), false);
            Sheet.throwsDue("it is no list", IllegalStateException.class, () -> x.add(v, 1));
        }
        Sheet.says("Sets a variable of the data to nothing.");
        s.number('a', 1).number('b', 2);
        x.clear('a');
        s.fails("{=a}", TemplateQuarry.NOTHING);
        s.puts("{=b}", "2");
    }

    private static void truth() {
        Sheet s = new Sheet();
        Sheet.says("Nothing, 0, a text without characters and a list without items are false, all others are true.");
        s.number('o', 0).number('p', 1).number('q', LEAST).text('t', "").text('u', "0").text('v', " ").list('l').list('m', "0");
        String no = "z0otl";
        String yes = "1pquvm";
        for (char c : no.toCharArray()) s.puts("{?" + c + "}y{:}n{;}{=!" + c + "}{=(1&" + c + ")}{=(" + c + "?9)}", "n109");
        for (char c : yes.toCharArray()) s.puts("{?" + c + "}y{:}n{;}{=!" + c + "}{=(1&" + c + ")}{=((" + c + "?0)=" + c + ")}", "y011");
        s.puts("{?''}y{:}n{;}{?'0'}y{:}n{;}{?0000}y{:}n{;}", "nyn");
    }

    private static void variablesAndItems() {
        Sheet s = new Sheet();
        Sheet.says("v is the variable in the innermost scope that has it, otherwise that of the data.");
        s.number('a', 1).puts("{=a}{%a2}{=a}{#1}{=a}{%a3}{=a}{k2}{=a}{;}{;}{=a}", "122332");
        Sheet.says("v.d is the item d of a list; TYPE if it is none, INDEX if there is no such item.");
        s.list('l', "10", "11", "12", "13", "14", "15", "16", "17").list('o', "x").list('e').text('t', "abc");
        for (int d = 0; d <= 9; d++) {
            if (d < 8) s.puts("{=l." + d + "}", "" + (10 + d));
            else s.fails("{=l." + d + "}", TemplateQuarry.INDEX);
        }
        s.puts("{=o.0}", "x");
        s.fails("{=o.1}", TemplateQuarry.INDEX);
        s.fails("{=e.0}", TemplateQuarry.INDEX);
        for (char v : "atz".toCharArray()) s.fails("{=" + v + ".0}", TemplateQuarry.TYPE);
        s.fails("{=a.9}", TemplateQuarry.TYPE);
        s.puts("{%z(1+1)}{*zl}{?(z=12)}{=z}{;}{;}{=z}", "122");
    }

    private static void sums() {
        Sheet s = new Sheet();
        Sheet.says("+ adds numbers, or puts texts together, which is safe if both are (FULL, if that has more than 300 characters)");
        s.text('t', "&").puts("{=('&'+'')}{=('&'+t)}{=(t+'&')}{=(t+t)}{=(''+'')}", "&&a;&a;&a;&a;&a;&a;");
        s.puts("{=(t|r+'&')}{=(''+t|r)}{=(''+t)}", "&&&&a;");
        s.text('a', FORTY).text('b', "abcdefghij".repeat(2)).text('c', "x").text('e', "");
        String twoSixty = "{%d((a+a)+(a+a))}{%d(d+(a+a))}";
        s.puts(twoSixty + "{=(d+(a+b))|l}{=((d+(a+b))+e)|l}", "300300");
        s.puts(twoSixty + "{=((a+b)+d)}", "abcdefghij".repeat(30));
        s.fails(twoSixty + "{=((d+(a+b))+c)|l}", TemplateQuarry.FULL);
        s.fails(twoSixty + "{=(c+(d+(a+b)))|l}", TemplateQuarry.FULL);
        s.fails(twoSixty + "{%f(d+d)}", TemplateQuarry.FULL);
        s.puts(twoSixty + "{+}{%f(d+d)}{:}no{;}", "no");
    }

    private static void results() {
        Sheet s = new Sheet();
        Sheet.says("- and * are for numbers; NUMBER if the result is no int.");
        s.number('m', MOST).number('i', LEAST).number('h', 65536).number('n', -65536).number('k', 32768);
        s.puts("{=(m+0)} {=(m-0)} {=(i+0)} {=(i*1)}", "2147483647 2147483647 -2147483648 -2147483648");
        s.puts("{=(m+i)} {=(i+m)} {=((m-1)+1)} {=((i+1)-1)}", "-1 -1 2147483647 -2147483648");
        s.puts("{=(0-m)} {=(m*(0-1))} {=(m-m)} {=(i-i)} {=(i*0)}", "-2147483647 -2147483647 0 0 0");
        s.puts("{=(h*(k-1))} {=(k*n)} {=(n*k)}", "2147418112 -2147483648 -2147483648");
        String[] far = {"(m+1)", "(1+m)", "(m+m)", "(i-1)", "(i+i)", "(i+(0-1))", "(m-(0-1))", "(m-i)", "(i-m)", "(0-i)", "(i*(0-1))",
            "(m*2)", "(h*k)", "(h*h)", "(n*n)", "(h*n)", "(i*i)", "(m*m)", "(i*m)"};
        for (String e : far) s.fails("{=" + e + "}", TemplateQuarry.NUMBER);
    }

    /** All are expressions that are 1, or all are 0. */
    private static void each(Sheet s, String want, String... expressions) {
        for (String e : expressions) s.puts("{=" + e + "}", want);
    }

    private static void lessAndAlike() {
        Sheet s = new Sheet();
        s.number('m', MOST).number('i', LEAST).text('t', "ab").text('e', "").text('w', "1");
        Sheet.says("< tells whether a number is less, or a text by the codes of its characters, one that goes on behind the other.");
        each(s, "1", "(1<2)", "(i<m)", "(i<0)", "(0<m)", "((0-2)<(0-1))", "((m-1)<m)");
        each(s, "0", "(2<1)", "(2<2)", "(m<i)", "(i<i)", "(m<m)", "(0<i)", "(0<0)");
        each(s, "1", "(''<'a')", "(e<t)", "('a'<'ab')", "('a'<t)", "(t<'abc')", "('B'<'a')", "(' '<'!')", "('10'<'9')", "('az'<'b')", "('|'<'~')");
        each(s, "0", "(''<'')", "(e<'')", "('a'<'')", "(t<'a')", "(t<t)", "(t<'ab')", "('ab'<t)", "('a'<'B')", "('9'<'10')", "('b'<'az')");
        Sheet.says("= tells whether values are alike: of one kind, with the same number, characters (safe or not), or items.");
        s.list('l', "1", "ab").list('k', "1", "ab").list('o', "ab", "1").list('p', "1").list('q', "1", "ab", "1").list('r').list('s');
        s.list('u', "1", "aB");
        each(s, "1", "(z=y)", "(0=0)", "(m=m)", "(i=i)", "(1=0001)", "(''=e)", "(t='ab')", "('ab'=t)", "(t|r=t)", "(l=k)", "(l=l)", "(r=s)", "(l.1=t)");
        each(s, "0", "(z=0)", "(z='')", "(z=r)", "(0=z)", "(0='')", "(0=r)", "(''=r)", "(e=z)", "(r=z)", "(r=0)", "(r='')", "(1='1')", "(w=1)");
        each(s, "0", "(m=i)", "(1=2)", "(t='a')", "(t='abc')", "(t='aB')", "(t='')", "(l=o)", "(l=p)", "(p=l)", "(l=q)", "(q=l)", "(l=u)", "(r=p)", "(p=r)");
        // an item that is a number, and one that is a text of the same digits
        s.list('v');
        s.type("1").x.addText('v');
        each(s, "0", "(p=v)", "(v=p)", "(p=1)", "(p.0=v.0)");
    }

    private static void logic() {
        Sheet s = new Sheet();
        s.text('t', "x").list('l', "1");
        Sheet.says("These two, & and ! are 1 or 0; & is 1 if both are true, ! if it is not.");
        each(s, "1", "(7&t)", "(t&l)", "(l&9)", "!0", "!z", "!!t", "!!l");
        each(s, "0", "(7&0)", "(t&'')", "(l&z)", "(0&7)", "(z&t)", "!7", "!t", "!l", "!!z");
        Sheet.says("& does not need its second one, if the first one is false.");
        each(s, "0", "(0&z.0)", "(z&t.0)", "(''&l.9)", "(0&y|u)");
        s.fails("{=(1&z.0)}", TemplateQuarry.TYPE);
        s.fails("{=(t&l.9)}", TemplateQuarry.INDEX);
        s.fails("{=(z.0&0)}", TemplateQuarry.TYPE);
    }

    private static void choices() {
        Sheet s = new Sheet();
        s.text('t', "&").list('l', "1");
        Sheet.says("? is the first one, if it is true, otherwise the second one, which is not found then if not needed;");
        s.puts("{=(7?z.0)}{=('&'?z.0)}{=(t?z.0)}{=(l?z.0)|l}", "7&&a;1");
        s.puts("{=(0?8)}{=(z?'&')}{=(''?t)}{=(0?l)|l}{=(1?2)}{=(0?0)}", "8&&a;110");
        s.fails("{=(0?z)}", TemplateQuarry.NOTHING);
        s.fails("{=(0?z.0)}", TemplateQuarry.TYPE);
        s.fails("{=(''?l.1)}", TemplateQuarry.INDEX);
        s.fails("{=(z.0?1)}", TemplateQuarry.TYPE);
    }

    private static void raised() {
        Sheet s = new Sheet();
        Sheet.says("|u: a text with a to z as A to Z, safe as before.");
        s.text('t', "`abyz{@AYZ[09~").puts("{=t|u}", "`ABYZ{@AYZ[09~");
        s.text('t', "&a").puts("{=t|u}{='&a'|u}{=''|u}{=t|r|u}{=t|u|u}{=t}", "&a;A&A&A&a;A&a;a");
    }

    private static void lengths() {
        Sheet s = new Sheet();
        Sheet.says("|l: how many characters a text, or items a list has.");
        s.text('t', "<&").text('f', FORTY).text('e', "").list('l', "1", "ab", "1", "1", "1", "1", "1", "1").list('m', "").list('k');
        s.puts("{=t|l} {=f|l} {=e|l} {=''|l} {=l|l} {=m|l} {=k|l} {=l.1|l}", "2 40 0 0 8 1 0 2");
    }

    private static void safeTexts() {
        Sheet s = new Sheet();
        Sheet.says("|r: a text, safe.");
        s.text('t', "&\">").text('e', "").puts("{=t|r}{=t}{='&'|r}{=e|r}{=t|r|r}", "&\">&a;&q;&g;&&\">");
        s.list('l', "&").puts("{=l.0|r}{=l.0}", "&&a;");
        Sheet.says("The texts of ' ' and of messages are safe; those of the data are not.");
        s.message(0, "&#>", "").puts("{='&'}{t01}{=t}{=l.0}", "&&1>&a;&q;&g;&a;");
    }

    private static void joins() {
        Sheet s = new Sheet();
        Sheet.says("|j: the items of a list, numbers by their digits, texts as they are, with commas between, as a text");
        s.list('l', "1", "-2", "0", "a,b", "<", "2147483647", "-2147483648", " ").list('o', "7").list('e');
        s.puts("{=l|j}", "1,-2,0,a,b,&l;,2147483647,-2147483648, ");
        s.puts("{=o|j} [{=e|j}] {=l|j|l} {=o|j|l} {=e|j|l}", "7 [] 37 1 0");
        s.x.addText('e');
        s.puts("[{=e|j}]", "[]");
        s.x.addText('e');
        s.puts("[{=e|j}]", "[,]");
        Sheet.says("safe if it has no text that is not (FULL likewise)");
        s.list('e').list('n', "1", "2").list('m', "1", "x").list('x', "x").list('y', "");
        s.puts("{=(e|j+'&')}{=(n|j+'&')}{=(m|j+'&')}{=(x|j+'&')}", "&1,2&1,x&a;x&a;");
        s.x.list('y');
        s.x.addText('y');
        s.puts("{=(y|j+'&')}", "&a;");
        String[] most = {FORTY, FORTY, FORTY, FORTY, FORTY, FORTY, FORTY, "abcdefghijklm"};
        s.list('f', most);
        s.puts("{=f|j|l}", "300");
        s.puts("{=f|j}", String.join(",", most));
        most[7] += "n";
        s.list('f', most);
        s.fails("{=f|j|l}", TemplateQuarry.FULL);
        s.fails("{?f|j}{;}", TemplateQuarry.FULL);
        most[7] = FORTY;
        s.list('f', most);
        s.fails("{=f|j|l}", TemplateQuarry.FULL);
    }

    private static void readNumbers() {
        Sheet s = new Sheet();
        Sheet.says("|n: the number that a text is: 1 to 9 digits, perhaps a - ahead of them; nothing otherwise.");
        String[] numbers = {"0", "7", "-7", "-0", "999999999", "-999999999", "000000001", "-000000009"};
        for (String n : numbers) {
            int want = Integer.parseInt(n);
            s.puts("{='" + n + "'|n}", "" + want);
            s.text('t', n).puts("{=t|n}{=(t|n=" + (want < 0 ? "(0-" + (-want % 10000) + ")" : "" + want % 10000) + ")}",
                    want + (want > 9999 || want < -9999 ? "0" : "1"));
        }
        for (String no : new String[] {"", "-", "1234567890", "-1234567890", "0000000001", "--1", "1-", "-1-", "+1", " 1", "1 ", "1a", "/", ":", "1.0"}) {
            s.text('t', no).puts("{=t|n|d'no'}{?t|n}y{;}{=(t|n=z)}", "no1");
        }
    }

    private static void defaults() {
        Sheet s = new Sheet();
        Sheet.says("|d: the primary, if it is nothing; otherwise the value as it is, and the primary is not found.");
        s.text('t', "&").text('e', "").number('o', 0).list('l').number('p', 5);
        s.puts("{=z|d5}{=z|d'&'}{=z|dt}{=z|dl|l}{=z|d(p+1)}{=z|d!p}", "5&&a;060");
        s.puts("{=o|dz.0}{=e|dz.0}{=t|dz.0}{=l|dz.0|l}{=p|dy}", "0&a;05");
        s.fails("{=z|dy}", TemplateQuarry.NOTHING);
        s.fails("{=z|dp.0}", TemplateQuarry.TYPE);
        s.fails("{=z|dl.0}", TemplateQuarry.INDEX);
        s.puts("{=z|dy|d6}{=z|d7|dz.0}", "67");
    }

    private static void wrongKinds() {
        Sheet s = new Sheet();
        Sheet.says("A filter or an operator for which a value does not have the right kind: TYPE.");
        s.number('n', 4).text('t', "5").list('l', "6");
        String kinds = "zntl";
        // z is nothing, n a number, t a text, l a list
        String[] filters = {"u", "t", "l", "tl", "r", "t", "j", "l", "n", "t", "d1", "zntl"};
        for (int i = 0; i < filters.length; i += 2) {
            for (char v : kinds.toCharArray()) {
                String text = "{%x" + v + "|" + filters[i] + "}";
                if (filters[i + 1].indexOf(v) >= 0) s.puts(text, "");
                else s.fails(text, TemplateQuarry.TYPE);
            }
        }
        String[] operators = {"+", "nn tt", "-", "nn", "*", "nn", "<", "nn tt", "=", "all", "&", "all", "?", "all"};
        for (int i = 0; i < operators.length; i += 2) {
            for (char v : kinds.toCharArray()) {
                for (char w : kinds.toCharArray()) {
                    String text = "{%x(" + v + operators[i] + w + ")}";
                    if (operators[i + 1].equals("all") || operators[i + 1].contains("" + v + w)) s.puts(text, "");
                    else s.fails(text, TemplateQuarry.TYPE);
                }
            }
        }
        for (char v : kinds.toCharArray()) s.puts("{%x!" + v + "}{=x}", v == 'z' ? "1" : "0");
        s.fails("{%x(n+l.0)}{=x|u}", TemplateQuarry.TYPE);
    }
}
