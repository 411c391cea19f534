/** Promises 1 to 6: a new object, texts, faults, templates, messages. */
public final class TextsTest {
    public static void main(String[] args) {
        newObject();
        typing();
        faults();
        templates();
        messages();
        Sheet.end();
    }

    private static void newObject() {
        Quarry x = new Quarry();
        Sheet.due("wipe of a new one", x.wipe(), 0);
        Sheet.due("fault of no text", x.fault(), TemplateQuarry.NONE);
        Sheet.due("spent", x.spent(), 0);
        Sheet.due("hits", x.hits(), 0);
        Sheet.due("kept", x.kept(), 0);
        Sheet.due("context ahead of no output", x.context(0), TemplateQuarry.TEXT);
        Sheet.throwsDue("no output", IndexOutOfBoundsException.class, () -> x.out(0));
        Sheet.throwsDue("no context behind it", IndexOutOfBoundsException.class, () -> x.context(1));
        Sheet.due("alike", x.alike(), 0);
        Sheet.due("alikeAtEnd", x.alikeAtEnd(), 0);
        for (int t = 0; t < 10; t++) {
            Sheet.due("mayEnd " + t, x.mayEnd(t), 1);
            Sheet.due("check " + t, x.check(t), TemplateQuarry.NONE);
            Sheet.due("render " + t, x.render(t), 0);
        }
        Sheet.due("shape", x.shape('a', 1), 15);
        Sheet.due("budget", x.budget(5), 1000);
        Sheet.due("clear", x.clear('a') ? 1 : 0, 0);
        Sheet s = new Sheet();
        for (int m = 0; m < 10; m++) s.puts("{t" + m + "1}{t" + m + "2}", "");
        int[] constants = {TemplateQuarry.NONE, TemplateQuarry.NOTHING, TemplateQuarry.TYPE, TemplateQuarry.INDEX, TemplateQuarry.NUMBER,
            TemplateQuarry.MACRO, TemplateQuarry.BLOCK, TemplateQuarry.DEPTH, TemplateQuarry.STEPS, TemplateQuarry.FULL};
        for (int i = 0; i < constants.length; i++) Sheet.due("a constant", constants[i], -1 - i);
        int[] contexts = {TemplateQuarry.TEXT, TemplateQuarry.OPENED, TemplateQuarry.TAG, TemplateQuarry.QUOTED,
            TemplateQuarry.SCRIPT_TAG, TemplateQuarry.SCRIPT_QUOTED, TemplateQuarry.SCRIPT, TemplateQuarry.STRING};
        for (int i = 0; i < contexts.length; i++) Sheet.due("a context", contexts[i], i);
    }

    private static void typing() {
        Quarry x = new Quarry();
        for (int c : new int[] {0, 10, 31, 127, 128, 255, 65535}) {
            Sheet.throwsDue("type " + c, IllegalArgumentException.class, () -> x.type((char) c));
        }
        for (int i = 1; i <= 80; i++) Sheet.due("type", x.type((char) (i == 1 ? 32 : 126)), i);
        Sheet.throwsDue("type an 81st", IllegalStateException.class, () -> x.type('a'));
        Sheet.throwsDue("type a wrong 81st", IllegalArgumentException.class, () -> x.type((char) 31));
        Sheet.due("wipe", x.wipe(), 80);
        Sheet.due("wipe again", x.wipe(), 0);
        Sheet.due("type anew", x.type('a'), 1);
    }

    private static void faults() {
        Sheet s = new Sheet();
        s.fault("abc <>\"'\\", -1);
        s.fault("}", 0);
        s.fault("a}", 1);
        s.fault("{", 1);
        s.fault("{;}", 1);
        s.fault("{:}", 1);
        s.fault("{<3}a{=a}", -1);
        s.fault("{<3", 3);
        s.fault("{<3a", 3);
        s.fault("a{<3}", 2);
        s.fault("{<3}{<", 5);
        s.fault("{q", 1);
        s.fault("{=}", 2);
        s.fault("{=1234}", -1);
        s.fault("{=12345}", 6);
        s.fault("{=0000}", -1);
        s.fault("{='a b|(1'}", -1);
        s.fault("{='a{", 4);
        s.fault("{='a}", 4);
        s.fault("{='a", 4);
        s.fault("{=''}", -1);
        s.fault("{=a.9}", -1);
        s.fault("{=a.10}", 5);
        s.fault("{=a.", 4);
        s.fault("{=1.1}", 3);
        s.fault("{=A}", 2);
        for (char o : "+-*<=&?".toCharArray()) s.fault("{=(a" + o + "b)}", -1);
        for (char o : "/>!|,. ".toCharArray()) s.fault("{=(a" + o + "b)}", o == '|' || o == '.' ? 5 : 4);
        s.fault("{=(a)}", 4);
        s.fault("{=()}", 3);
        s.fault("{=(a+b|u)}", -1);
        s.fault("{=(a|l+b)|u}", -1);
        s.fault("{=(a+b+c)}", 6);
        s.fault("{=!!a|l}", -1);
        s.fault("{=!|l}", 3);
        for (char f : "ulrjn".toCharArray()) s.fault("{=a|" + f + "}", -1);
        s.fault("{=a|d}", 5);
        s.fault("{=a|d1|u}", -1);
        s.fault("{=a|d!b|u}", -1);
        s.fault("{=a|du}", -1);
        s.fault("{=a|q}", 4);
        s.fault("{=a||u}", 4);
        s.fault("{=a b}", 3);
        s.fault("{?a}b{:}c{;}", -1);
        s.fault("{?a}b{;}{;}", 9);
        s.fault("{?a}b{:}c{:}", 10);
        s.fault("{*ab}{:}{;}", -1);
        s.fault("{*a}", 3);
        s.fault("{*aa.1}{;}", -1);
        s.fault("{*1", 2);
        s.fault("{+}a{:}b{;}", -1);
        s.fault("{+}a{;}", 5);
        s.fault("{+}a{:}b{:}", 9);
        s.fault("{+a", 2);
        s.fault("{#1}{;}", -1);
        s.fault("{#1}{:}", 5);
        s.fault("{#12", 3);
        s.fault("{#}", 2);
        s.fault("{#1}", 4);
        s.fault("{^}{~}{-}{@9}", -1);
        s.fault("{^1", 2);
        s.fault("{~a", 2);
        s.fault("{- ", 2);
        s.fault("{@}", 2);
        s.fault("{@12", 3);
        s.fault("{$1}{;}", -1);
        s.fault("{$1abc}{;}", -1);
        s.fault("{$1abcd", 6);
        s.fault("{$1abc=", 7);
        s.fault("{$1aa", 4);
        s.fault("{$1aba", 5);
        s.fault("{$1a=1a", 6);
        s.fault("{$1a=1b=a.2c='x'}{;}", -1);
        s.fault("{$1a=b|u", 6);
        s.fault("{$1a=!b|uc=(a+b)}{;}", -1);
        s.fault("{$1a=}", 5);
        s.fault("{$1,", 3);
        s.fault("{$a", 2);
        s.fault("{$1}{:}", 5);
        s.fault("{!1}", -1);
        s.fault("{!112}", -1);
        s.fault("{!1a,b:1,c.2|u}", -1);
        s.fault("{!1a,b,c,", 8);
        s.fault("{!1a,}", 5);
        s.fault("{!1,", 3);
        s.fault("{!1a:", 5);
        s.fault("{!1a:b:", 6);
        s.fault("{!1a:1,a:2}", -1);
        s.fault("{!11:", 4);
        s.fault("{&1a}{;}", -1);
        s.fault("{&1a}", 5);
        s.fault("{&1}{:}", 5);
        s.fault("{%a1}", -1);
        s.fault("{%a}", 3);
        s.fault("{%1", 2);
        s.fault("{t3(a+1)}", -1);
        s.fault("{t3 a}", 3);
        s.fault("{t3}", 3);
        s.fault("{ta", 2);
        s.fault("{k1}a{;}", -1);
        s.fault("{k1}a", 5);
        s.fault("{k}", 2);
        s.fault("{=" + "(".repeat(78), 80);
        s.fault("{=" + "!".repeat(78), 80);
        s.fault("{?a}".repeat(20), 80);
        s.fault("{+}".repeat(26), 78);
        s.fault("{=a" + "|u".repeat(38) + "}", -1);
        s.fault("x".repeat(80), -1);
    }

    private static void templates() {
        Sheet s = new Sheet();
        s.type("{<1}{?a}{:}{;}{*bl}{;}{+}{:}{;}{#1}{^}{;}{@2}{$1}{~}{;}{!1}{&1}{;}{%a1}{-}");
        Sheet.due("tags", s.x.template(0), 13);
        Sheet.due("the text is empty then", s.x.wipe(), 0);
        s.type("{t1a}{k1}{=a}{;}");
        Sheet.due("tags", s.x.template(9), 3);
        s.type("ab {");
        Sheet.throwsDue("no template there", IndexOutOfBoundsException.class, () -> s.x.template(10));
        Sheet.throwsDue("no template there", IndexOutOfBoundsException.class, () -> s.x.template(-1));
        Sheet.throwsDue("not a template", IllegalArgumentException.class, () -> s.x.template(9));
        Sheet.due("the text stays", s.x.wipe(), 4);
        s.set(2, "old");
        s.type("{;}");
        Sheet.throwsDue("not a template", IllegalArgumentException.class, () -> s.x.template(2));
        s.renders(2, "old");
        s.x.wipe();
        Sheet.due("an empty text", s.x.template(2), 0);
        s.renders(2, "");
    }

    private static void messages() {
        Sheet s = new Sheet();
        s.type("a#b##");
        Sheet.throwsDue("no message", IndexOutOfBoundsException.class, () -> s.x.message(10, 0));
        Sheet.throwsDue("no message, no form", IndexOutOfBoundsException.class, () -> s.x.message(-1, 2));
        Sheet.throwsDue("no form", IllegalArgumentException.class, () -> s.x.message(0, 2));
        Sheet.throwsDue("no form", IllegalArgumentException.class, () -> s.x.message(0, -1));
        Sheet.due("places", s.x.message(0, 0), 3);
        Sheet.due("the text is empty then", s.x.wipe(), 0);
        s.type("{;} n");
        Sheet.due("any text", s.x.message(0, 1), 0);
        s.puts("{t01}{t02}{t00}", "a1b11{;} n{;} n");
        s.message(9, "", "# <b> #");
        s.puts("{t9(0-12)}{t91}", "-12 <b> -12");
        s.type("x#");
        s.x.message(9, 0);
        s.puts("{t9(0-12)}{t91}", "-12 <b> -12x1");
        s.text('a', "1").list('l', "1");
        s.fails("{t0a}", TemplateQuarry.TYPE);
        s.fails("{t0l}", TemplateQuarry.TYPE);
        s.fails("{t0z}", TemplateQuarry.TYPE);
    }
}
