import java.util.function.IntSupplier;

/** Random runs of calls, each answer of the program beside that of the document written plainly. */
public final class AgainstOracleTest {
    private static int wrong;
    private static final int[] codes = new int[12];
    private static int shownHits;
    private static int renders;

    private final Quarry x = new Quarry();
    private final Oracle o = new Oracle();
    private final Chance chance;
    private final Writer writer;
    private final StringBuilder told = new StringBuilder();
    private final boolean gentle;
    private boolean right = true;
    private int lately;

    private AgainstOracleTest(long seed) {
        chance = new Chance(seed);
        gentle = seed % 2 == 0;
        writer = new Writer(chance, gentle);
    }

    private static long answer(IntSupplier call) {
        try {
            return call.getAsInt();
        } catch (IndexOutOfBoundsException e) {
            return 1L << 40;
        } catch (IllegalArgumentException e) {
            return 2L << 40;
        } catch (IllegalStateException e) {
            return 3L << 40;
        }
    }

    private long same(String name, IntSupplier a, IntSupplier b) {
        long got = answer(a);
        long due = answer(b);
        told.append(name).append(" -> ").append(due).append('\n');
        if (got != due && right) {
            right = false;
            wrong++;
            System.out.println(told + "!! answered " + got);
        }
        return due;
    }

    private void type(String s) {
        for (char c : s.toCharArray()) {
            if (answer(() -> x.type(c)) != answer(() -> o.type(c))) {
                right = false;
                wrong++;
                System.out.println("type " + (int) c);
            }
        }
        told.append("type ").append(s).append('\n');
    }

    private void checkOutput() {
        int n = o.output.size();
        for (int i = -1; i <= n + 1; i++) {
            int place = i;
            if (answer(() -> x.out(place)) != answer(() -> o.out(place))
                    || answer(() -> x.outAnew(place)) != answer(() -> o.outAnew(place))
                    || answer(() -> x.source(place)) != answer(() -> o.source(place))
                    || answer(() -> x.context(place)) != answer(() -> o.context(place))) {
                if (right) {
                    wrong++;
                    System.out.println(told + "!! output " + o.shown() + " differs at " + i);
                }
                right = false;
                return;
            }
        }
        told.append("   ").append(o.shown()).append('\n');
    }

    private void template() {
        template(chance.below(4));
    }

    private void template(int t) {
        String s = writer.template(80, t == 3);
        if (chance.in(gentle ? 20 : 6)) s = writer.spoilt(s);
        type(s);
        same("fault", x::fault, o::fault);
        if (same("template " + t, () -> x.template(t), () -> o.template(t)) >= 1L << 40) {
            same("wipe", x::wipe, o::wipe);
        }
    }

    private void data() {
        char name = chance.among("aabbccxylm");
        int value = chance.in(6) ? Integer.MAX_VALUE - chance.below(3) : chance.below(6) - 2;
        String[] some = {"", "a", "<", "\"&", "-12", "3", "a<b>'\\c", "zZ9 ;", "12345678901234567890123456789012345678901234567"};
        switch (chance.below(7)) {
            case 0:
                x.number(name, value);
                o.number(name, value);
                told.append("number " + name + value + "\n");
                break;
            case 1: case 2:
                type(some[chance.below(some.length)]);
                same("text " + name, () -> x.text(name), () -> o.text(name));
                break;
            case 3: {
                char l = chance.among("lm");
                x.list(l);
                o.list(l);
                told.append("list " + l + "\n");
                break;
            }
            case 4:
                same("add " + value, () -> x.add(chance.in(2) ? 'l' : 'l', value), () -> o.add('l', value));
                break;
            case 5: {
                char l = chance.among("llma");
                type(some[chance.below(some.length)]);
                if (same("addText " + l, () -> x.addText(l), () -> o.addText(l)) >= 1L << 40) {
                    same("wipe", x::wipe, o::wipe);
                }
                break;
            }
            default:
                same("clear " + name, () -> x.clear(name) ? 1 : 0, () -> o.clear(name) ? 1 : 0);
                break;
        }
    }

    private void render() {
        int t = chance.in(2) ? lately : chance.below(4);
        lately = t;
        if (chance.in(8)) {
            int steps = chance.in(3) ? chance.below(40) : 900 + chance.below(1200);
            same("budget " + steps, () -> x.budget(steps), () -> o.budget(steps));
        }
        long code = same("render " + t, () -> x.render(t), () -> o.render(t));
        renders++;
        codes[code >= 0 ? 0 : (int) -code]++;
        same("spent", x::spent, o::spent);
        if (same("hits", x::hits, o::hits) > 0) shownHits++;
        same("kept", x::kept, o::kept);
        same("alike", x::alike, o::alike);
        same("alikeAtEnd", x::alikeAtEnd, o::alikeAtEnd);
        checkOutput();
    }

    private void lookAhead() {
        int t = chance.below(4);
        char name = chance.among("abcxylm");
        int kinds = chance.in(2) ? 1 << chance.below(4) : chance.below(17);
        same("shape " + name + kinds, () -> x.shape(name, kinds), () -> o.shape(name, kinds));
        same("check " + t, () -> x.check(t), () -> o.check(t));
        same("mayEnd " + t, () -> x.mayEnd(t), () -> o.mayEnd(t));
    }

    private boolean goesOn() {
        return right && !x.hasLongPast();
    }

    private void run(int calls) {
        for (int t = 0; t < 4; t++) template(t);
        for (int i = 0; i < 8 && goesOn(); i++) data();
        boolean settled = chance.in(2);
        if (gentle || chance.in(3)) {
            x.list('l');
            o.list('l');
            told.append("list l\n");
            int items = chance.in(3) ? 8 : 1 + chance.below(3);
            for (int i = 0; i < items; i++) {
                int value = i;
                same("add " + value, () -> x.add('l', value), () -> o.add('l', value));
            }
        }
        for (int i = 0; i < calls && goesOn(); i++) {
            switch (chance.below(12)) {
                case 0:
                    if (!settled) template();
                    break;
                case 1: case 2:
                    data();
                    break;
                case 3: case 4: case 5:
                    lookAhead();
                    break;
                case 6:
                    if (!settled && chance.in(3)) {
                        String[] some = {"#", "a#b#", "<", "one ", ""};
                        int m = chance.below(2);
                        int form = chance.below(3);
                        type(some[chance.below(some.length)]);
                        same("message " + m + form, () -> x.message(m, form), () -> o.message(m, form));
                        same("wipe", x::wipe, o::wipe);
                    }
                    break;
                default:
                    render();
                    break;
            }
        }
    }

    public static void main(String[] args) {
        long from = args.length > 0 ? Long.parseLong(args[0]) : 1;
        long runs = args.length > 1 ? Long.parseLong(args[1]) : 3000;
        for (long seed = from; seed < from + runs && wrong < 3; seed++) new AgainstOracleTest(seed).run(60);
        StringBuilder b = new StringBuilder("renders " + renders + ", with hits " + shownHits + ", by code");
        for (int c : codes) b.append(' ').append(c);
        System.out.println(b);
        System.out.println(wrong == 0 ? "all answers are as the document's" : wrong + " runs differ");
        if (wrong != 0) System.exit(1);
    }
}
