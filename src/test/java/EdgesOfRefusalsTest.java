import java.util.ArrayList;
import java.util.List;
import java.util.function.Consumer;
import java.util.function.ToLongFunction;

/** What is refused changes nothing, and always throws the exception that is listed first. */
public final class EdgesOfRefusalsTest {
    private record Refused(String name, Class<? extends RuntimeException> due, Consumer<TemplateQuarry> call) {}

    private static final List<Refused> REFUSED = new ArrayList<>();
    private static final List<ToLongFunction<TemplateQuarry>> CALLS = new ArrayList<>();

    private static final Class<? extends RuntimeException> INDEX = IndexOutOfBoundsException.class;
    private static final Class<? extends RuntimeException> ARGUMENT = IllegalArgumentException.class;
    private static final Class<? extends RuntimeException> STATE = IllegalStateException.class;

    public static void main(String[] args) {
        always();
        script();
        Sheet.says("A call that throws an exception changes nothing.");
        Sheet.due("an object is used for at most 512 calls", 2 * CALLS.size() <= 512, true);
        for (Refused refused : REFUSED) changesNothing(refused);
        whatDependsOnTheState();
        Sheet.end();
    }

    private static void refused(String name, Class<? extends RuntimeException> due, Consumer<TemplateQuarry> call) {
        REFUSED.add(new Refused(name, due, call));
    }

    /** What is refused in any state. */
    private static void always() {
        for (char c : new char[] {0, 31, 127, 65535}) refused("type " + (int) c, ARGUMENT, x -> x.type(c));
        for (int t : new int[] {-1, 10, Integer.MIN_VALUE, Integer.MAX_VALUE}) {
            refused("template " + t, INDEX, x -> x.template(t));
            refused("message " + t, INDEX, x -> x.message(t, 0));
            refused("message " + t + " form 2", INDEX, x -> x.message(t, 2));
            refused("render " + t, INDEX, x -> x.render(t));
            refused("mayEnd " + t, INDEX, x -> x.mayEnd(t));
            refused("check " + t, INDEX, x -> x.check(t));
        }
        for (int form : new int[] {-1, 2, Integer.MIN_VALUE, Integer.MAX_VALUE}) refused("form " + form, ARGUMENT, x -> x.message(0, form));
        for (char name : new char[] {'`', '{', 'A', 0, 65535}) {
            refused("number", ARGUMENT, x -> x.number(name, 5));
            refused("text", ARGUMENT, x -> x.text(name));
            refused("list", ARGUMENT, x -> x.list(name));
            refused("add", ARGUMENT, x -> x.add(name, 5));
            refused("addText", ARGUMENT, x -> x.addText(name));
            refused("clear", ARGUMENT, x -> x.clear(name));
            refused("shape", ARGUMENT, x -> x.shape(name, 1));
        }
        for (int kinds : new int[] {0, -1, 16}) refused("shape", ARGUMENT, x -> x.shape('a', kinds));
        for (int steps : new int[] {0, -1, 2001}) refused("budget", ARGUMENT, x -> x.budget(steps));
        for (int place : new int[] {-1, 300, 301, Integer.MIN_VALUE, Integer.MAX_VALUE}) {
            refused("out", INDEX, x -> x.out(place));
            refused("outAnew", INDEX, x -> x.outAnew(place));
            refused("source", INDEX, x -> x.source(place));
            if (place != 300) refused("context", INDEX, x -> x.context(place));
        }
        // the run makes no list of n, and nothing of z
        refused("addText to no list", STATE, x -> x.addText('n'));
        refused("add to no list", STATE, x -> x.add('n', 1));
        refused("add to nothing", STATE, x -> x.add('z', 1));
        refused("addText to nothing", STATE, x -> x.addText('z'));
    }

    private static void type(String text) {
        for (char c : text.toCharArray()) CALLS.add(x -> x.type(c));
    }

    private static void template(int t, String text) {
        type(text);
        CALLS.add(TemplateQuarry::fault);
        CALLS.add(x -> x.template(t));
    }

    /** A run that asks for all that an object knows. */
    private static void script() {
        CALLS.add(x -> x.budget(500));
        template(0, "{k1}{=a}{=n}{;}{t1n} {-}");
        template(1, "{@0}{%a1}{*bl}{=b}{;}");
        type("m#");
        CALLS.add(x -> x.message(1, 1));
        type("<&");
        CALLS.add(x -> x.text('a'));
        CALLS.add(x -> {
            x.number('n', 7);
            return 0;
        });
        CALLS.add(x -> {
            x.list('l');
            return 0;
        });
        CALLS.add(x -> x.add('l', 3));
        type("tx");
        CALLS.add(x -> x.addText('l'));
        CALLS.add(x -> x.shape('a', 6));
        CALLS.add(x -> x.shape('a', 6));
        for (int t : new int[] {0, 0, 1, 1, 2}) {
            CALLS.add(x -> x.render(t));
            ask();
        }
        type("{=");
        CALLS.add(TemplateQuarry::fault);
        CALLS.add(TemplateQuarry::wipe);
        CALLS.add(x -> x.clear('a') ? 1 : 0);
        CALLS.add(x -> x.clear('a') ? 1 : 0);
        CALLS.add(x -> x.render(1));
        ask();
        CALLS.add(x -> x.budget(500));
        CALLS.add(x -> x.render(0));
        ask();
    }

    private static void ask() {
        CALLS.add(TemplateQuarry::spent);
        CALLS.add(TemplateQuarry::hits);
        CALLS.add(TemplateQuarry::kept);
        CALLS.add(TemplateQuarry::alike);
        CALLS.add(TemplateQuarry::alikeAtEnd);
        for (int place : new int[] {0, 8, 11}) {
            CALLS.add(x -> anyway(() -> x.out(place)));
            CALLS.add(x -> anyway(() -> x.outAnew(place)));
            CALLS.add(x -> anyway(() -> x.source(place)));
            CALLS.add(x -> anyway(() -> x.context(place)));
        }
        for (int t = 0; t < 2; t++) {
            int template = t;
            CALLS.add(x -> x.mayEnd(template));
            CALLS.add(x -> x.check(template));
        }
    }

    private interface Call {
        long run();
    }

    private static long anyway(Call call) {
        try {
            return call.run();
        } catch (IndexOutOfBoundsException e) {
            return -1000;
        }
    }

    /** The run, with the refused call ahead of each of its calls, answers as it does without. */
    private static void changesNothing(Refused refused) {
        TemplateQuarry plain = new TemplateQuarry();
        TemplateQuarry disturbed = new TemplateQuarry();
        long refusals = 0;
        long differences = 0;
        for (ToLongFunction<TemplateQuarry> call : CALLS) {
            try {
                refused.call.accept(disturbed);
            } catch (RuntimeException e) {
                if (e.getClass() == refused.due) refusals++;
            }
            if (call.applyAsLong(plain) != call.applyAsLong(disturbed)) differences++;
        }
        Sheet.due("refusals of " + refused.name, refusals, CALLS.size());
        Sheet.due("other answers with " + refused.name, differences, 0);
    }

    private static void whatDependsOnTheState() {
        Sheet s = new Sheet();
        Quarry x = s.x;
        Sheet.says("Throws `IllegalStateException` if the text has 80");
        s.type("x".repeat(80));
        Sheet.throwsDue("an 81st", STATE, () -> x.type('y'));
        Sheet.due("template", x.template(0), 0);
        s.renders(0, "x".repeat(80));
        Sheet.says("Throws `IllegalArgumentException` if the text is no template");
        s.type("{k1}b{;}").x.template(1);
        s.renders(1, "b");
        s.type("{=");
        Sheet.throwsDue("no template", ARGUMENT, () -> x.template(1));
        Sheet.due("the fragments stay", x.kept(), 1);
        s.renders(1, "b");
        Sheet.due("the fragments stay", x.hits(), 1);
        Sheet.due("the text stays", x.fault(), 2);
        s.type("1}");
        x.template(2);
        s.renders(2, "1");
        Sheet.says("Throws `IllegalStateException` if it is no list, or has 8 items");
        s.list('l', "1", "2", "3", "4", "5", "6", "7", "8").type("nine");
        Sheet.throwsDue("a ninth", STATE, () -> x.addText('l'));
        Sheet.throwsDue("a ninth", STATE, () -> x.add('l', 9));
        Sheet.due("the text stays", x.wipe(), 4);
        s.puts("{=l|j}", "1,2,3,4,5,6,7,8");
        s.text('t', "ab").type("more");
        Sheet.throwsDue("no list", STATE, () -> x.addText('t'));
        Sheet.throwsDue("no list", STATE, () -> x.add('t', 1));
        Sheet.due("the text stays", x.wipe(), 4);
        s.puts("{=t}", "ab");
    }
}
