import java.lang.management.ManagementFactory;
import java.util.function.Consumer;

/**
 * A run has room for some 600,000 objects and 7.3 million elements in all. What
 * the dearest runs of 512 calls make is measured in bytes: an element is one
 * byte at least, and an object sixteen, so 7 million bytes are always room enough.
 */
public final class RoomTest {
    private static final long MOST_BYTES = 7_000_000;
    private static final int MOST_CALLS = 512;
    private static int wrong;
    private static int calls;

    private static final com.sun.management.ThreadMXBean THREADS =
            (com.sun.management.ThreadMXBean) ManagementFactory.getThreadMXBean();

    private static void type(TemplateQuarry x, String s) {
        for (char c : s.toCharArray()) x.type(c);
        calls += s.length();
    }

    private static void template(TemplateQuarry x, int t, String s) {
        type(x, s);
        x.template(t);
        calls++;
    }

    private static void measure(String name, Consumer<TemplateQuarry> prepare, Consumer<TemplateQuarry> call) {
        measure(name, prepare, 1, call);
    }

    /** As often as a run has calls. */
    private static void measure(String name, Consumer<TemplateQuarry> prepare, int callsAtOnce, Consumer<TemplateQuarry> call) {
        long before = THREADS.getThreadAllocatedBytes(Thread.currentThread().getId());
        TemplateQuarry x = new TemplateQuarry();
        calls = 0;
        prepare.accept(x);
        for (; calls <= MOST_CALLS - callsAtOnce; calls += callsAtOnce) call.accept(x);
        long bytes = THREADS.getThreadAllocatedBytes(Thread.currentThread().getId()) - before;
        System.out.println(name + ": " + bytes + " bytes");
        if (bytes > MOST_BYTES) {
            wrong++;
            System.out.println("that is too much");
        }
    }

    private static void eightItems(TemplateQuarry x) {
        x.list('l');
        for (int i = 0; i < 8; i++) {
            type(x, "abcdefgh");
            x.addText('l');
        }
        x.budget(2000);
        calls += 10;
    }

    public static void main(String[] args) {
        measure("fault of literals", x -> type(x, "x".repeat(80)), TemplateQuarry::fault);
        measure("fault of parentheses", x -> type(x, "{=" + "(".repeat(78)), TemplateQuarry::fault);
        measure("fault of nots", x -> type(x, "{=" + "!".repeat(76) + "a}"), TemplateQuarry::fault);
        measure("fault of filters", x -> type(x, "{=a" + "|u".repeat(38) + "}"), TemplateQuarry::fault);
        measure("check of bodies", x -> template(x, 0, "{?a}{:}{;}".repeat(8)), x -> x.check(0));
        measure("mayEnd of loops", x -> template(x, 0, "{*al}".repeat(9) + "<s>'" + "{;}".repeat(9)), x -> x.mayEnd(0));
        measure("loops with texts", x -> {
            eightItems(x);
            template(x, 0, "{*al}{*bl}{*cl}{*dl}{%e(((a+b)+(c+d))+((b+a)+(d+c)))}{;}{;}{;}{;}");
        }, x -> x.render(0));
        measure("joins", x -> {
            eightItems(x);
            template(x, 0, "{*al}{*bl}{*cl}{*dl}{?(((l|j+l|j)+(l|j+l|j))|l<9)}{;}{;}{;}{;}{;}");
        }, x -> x.render(0));
        measure("fragments", x -> {
            eightItems(x);
            template(x, 0, "{*al}{*bl}{%c(a+l|j)}{k1}{=c}{k2}{=b}{;}{;}{k3}{=(c+c)|l}{;}{;}{;}");
        }, x -> x.render(0));
        measure("includes", x -> template(x, 0, "{%a'xxxxxxxxxxxx'}{?1}{?1}{?1}{+}{@0}{:}{@0}{;}{;}{;}{;}"), x -> x.render(0));
        measure("lists that grow", x -> { }, 3, x -> {
            x.list('l');
            x.add('l', 1);
            x.add('l', 2);
        });
        if (wrong != 0) System.exit(1);
        System.out.println("all runs have room");
    }
}
