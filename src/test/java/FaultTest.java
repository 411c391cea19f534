/** Promise 4 again: short texts all, and random ones, beside the grammar as it stands in the document. */
public final class FaultTest {
    private static int wrong;
    private static int asked;

    private static void ask(Quarry x, String s) {
        x.wipe();
        for (char c : s.toCharArray()) x.type(c);
        int got = x.fault();
        int due = Grammar.fault(s);
        asked++;
        if (got != due) {
            wrong++;
            System.out.println("fault of " + s + ": answered " + got + ", due is " + due);
        }
    }

    private static void all(Quarry x, String ahead, String signs, int most) {
        ask(x, ahead);
        if (most == 0) return;
        for (char c : signs.toCharArray()) all(x, ahead + c, signs, most - 1);
    }

    public static void main(String[] args) {
        Quarry x = new Quarry();
        String signs = "";
        for (char c = 32; c < 127; c++) signs += c;
        all(x, "", signs, 2);
        all(x, "{", signs, 2);
        for (char c : "=?*%".toCharArray()) all(x, "{" + c, "{}a1.(+)!|du':", 4);
        for (char c : "$!&".toCharArray()) all(x, "{" + c + "1", "}ab1.=,:|", 4);
        all(x, "{t1", "}a1.|d(+)", 4);
        all(x, "", "{};:+?a<1", 5);
        all(x, "{+}", "{};:", 7);
        all(x, "{?a}", "{};:", 7);
        for (long seed = 1; seed <= 4000; seed++) {
            Chance chance = new Chance(seed);
            Writer writer = new Writer(chance, false);
            String s = writer.template(80, false);
            ask(x, s);
            for (int i = 0; i < 4; i++) ask(x, writer.spoilt(s));
        }
        System.out.println(asked - wrong + " of " + asked + " faults are as due");
        if (wrong != 0 || asked == 0) System.exit(1);
    }
}
