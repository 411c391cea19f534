import java.util.ArrayList;
import java.util.Arrays;
import java.util.HashMap;
import java.util.HashSet;
import java.util.LinkedHashMap;
import java.util.List;
import java.util.Map;
import java.util.Objects;
import java.util.Set;
import java.util.TreeSet;

/**
 * The document once more, written plainly with the whole library: by recursion,
 * exceptions, maps and copies. AgainstOracleTest compares the program with it.
 */
final class Oracle {
    record Text(String signs, boolean safe) {}

    record Cell(char sign, char origin, boolean escaped, int part, int source, boolean literal) {}

    static final class Fail extends RuntimeException {
        private static final long serialVersionUID = 1;
        final int code;

        Fail(int code) {
            super(null, null, false, false);
            this.code = code;
        }
    }

    static final class Ex {
        String op;
        int number;
        char letter;
        String quote;
        Ex a;
        Ex b;
    }

    static final class Part {
        String tag;
        int place;
        int template;
        char letter;
        int digit = -1;
        Ex e;
        int block = -1;
        List<Character> names = new ArrayList<>();
        List<Ex> values = new ArrayList<>();
        List<Part> body = List.of();
        List<Part> second = List.of();
    }

    static final class Scope {
        final Map<Character, Object> variables = new HashMap<>();
        final Scope behind;
        final int born;

        Scope(Scope behind, int born) {
            this.behind = behind;
            this.born = born;
        }
    }

    record Place(int scope, int line) {}

    static final class Env {
        Scope scope;
        List<Integer> line;
        Part callersBody;
        Env site;

        Env copy() {
            Env e = new Env();
            e.scope = scope;
            e.line = line;
            e.callersBody = callersBody;
            e.site = site;
            return e;
        }
    }

    static final class Recording {
        Scope own;
        Map<String, Object> reads = new LinkedHashMap<>();
        boolean spoilt;
    }

    record Kept(int template, int place, List<Integer> line, int context, boolean waits, Map<String, Object> reads, List<Cell> cells) {}

    static final class Tree {
        int parent = -1;
        int tags;
        List<Part> body = List.of();
        List<Part> all = new ArrayList<>();
    }

    String typed = "";
    Tree[] trees = new Tree[10];
    String[][] forms = new String[10][2];
    Map<Character, Object> data = new HashMap<>();
    int[] shapes = new int[26];
    int budget = 1000;
    int steps;
    int hits;
    List<Cell> output = new ArrayList<>();
    List<Cell> before = new ArrayList<>();
    boolean waits;
    Map<Integer, Kept> kept = new HashMap<>();
    List<Recording> recordings = new ArrayList<>();
    int open;
    int births;

    Oracle() {
        for (int i = 0; i < 10; i++) {
            trees[i] = new Tree();
            forms[i][0] = "";
            forms[i][1] = "";
        }
        Arrays.fill(shapes, 15);
    }

    // ---- the calls

    int type(char c) {
        if (c < 32 || c > 126) throw new IllegalArgumentException();
        if (typed.length() >= 80) throw new IllegalStateException();
        typed += c;
        return typed.length();
    }

    int wipe() {
        int n = typed.length();
        typed = "";
        return n;
    }

    int fault() {
        return Grammar.fault(typed);
    }

    int template(int t) {
        if (t < 0 || t > 9) throw new IndexOutOfBoundsException();
        if (!Grammar.isTemplate(typed)) throw new IllegalArgumentException();
        trees[t] = new Maker(typed, t).make();
        kept.clear();
        typed = "";
        return trees[t].tags;
    }

    int message(int m, int form) {
        if (m < 0 || m > 9) throw new IndexOutOfBoundsException();
        if (form < 0 || form > 1) throw new IllegalArgumentException();
        forms[m][form] = typed;
        kept.clear();
        typed = "";
        return (int) forms[m][form].chars().filter(c -> c == '#').count();
    }

    private static void named(char name) {
        if (name < 'a' || name > 'z') throw new IllegalArgumentException();
    }

    void number(char name, int value) {
        named(name);
        data.put(name, value);
    }

    private Text taken() {
        Text t = new Text(typed.substring(0, Math.min(40, typed.length())), false);
        typed = "";
        return t;
    }

    int text(char name) {
        named(name);
        Text t = taken();
        data.put(name, t);
        return t.signs().length();
    }

    void list(char name) {
        named(name);
        data.put(name, List.of());
    }

    private List<Object> growing(char name) {
        named(name);
        if (!(data.get(name) instanceof List<?> l) || l.size() == 8) throw new IllegalStateException();
        return new ArrayList<>(l);
    }

    int add(char name, int value) {
        List<Object> l = growing(name);
        l.add(value);
        data.put(name, l);
        return l.size();
    }

    int addText(char name) {
        List<Object> l = growing(name);
        l.add(taken());
        data.put(name, l);
        return l.size();
    }

    boolean clear(char name) {
        named(name);
        return data.remove(name) != null;
    }

    int budget(int n) {
        if (n < 1 || n > 2000) throw new IllegalArgumentException();
        int was = budget;
        budget = n;
        return was;
    }

    int spent() {
        return steps;
    }

    int hits() {
        return hits;
    }

    int kept() {
        return kept.size();
    }

    private Cell at(int place) {
        if (place < 0 || place >= output.size()) throw new IndexOutOfBoundsException();
        return output.get(place);
    }

    char out(int place) {
        return at(place).sign();
    }

    char outAnew(int place) {
        Cell c = at(place);
        return c.escaped() ? escape(c.origin(), context(place)).charAt(c.part()) : c.origin();
    }

    int source(int place) {
        return at(place).source();
    }

    int context(int place) {
        if (place < 0 || place > output.size()) throw new IndexOutOfBoundsException();
        int c = 0;
        for (int i = 0; i < place; i++) c = lead(c, output.get(i).sign());
        return c;
    }

    private static String signs(List<Cell> cells) {
        StringBuilder b = new StringBuilder();
        for (Cell c : cells) b.append(c.sign());
        return b.toString();
    }

    String shown() {
        return signs(output);
    }

    int alike() {
        String a = signs(output), b = signs(before);
        int n = 0;
        while (n < a.length() && n < b.length() && a.charAt(n) == b.charAt(n)) n++;
        return n;
    }

    int alikeAtEnd() {
        String a = signs(output).substring(alike()), b = signs(before).substring(alike());
        int n = 0;
        while (n < a.length() && n < b.length() && a.charAt(a.length() - 1 - n) == b.charAt(b.length() - 1 - n)) n++;
        return n;
    }

    // ---- contexts

    static int lead(int context, char c) {
        String[] signs = {"<", ">s", ">\"", "\"", ">\"", "\"", "'<", "'"};
        int[][] to = {{1}, {0, 4}, {0, 3}, {2}, {6, 5}, {4}, {7, 1}, {6}};
        int i = signs[context].indexOf(c);
        return i >= 0 ? to[context][i] : context == 1 ? 2 : context;
    }

    static String escape(char c, int context) {
        switch (context) {
            case 0: case 3: case 5: {
                int i = "<>&\"".indexOf(c);
                return i < 0 ? "" + c : "&" + "lgaq".charAt(i) + ";";
            }
            case 7:
                return "'\\<".indexOf(c) >= 0 ? "_" : "" + c;
            case 1:
                return "";
            default:
                return ("" + c).matches("[A-Za-z0-9]") ? "" + c : "";
        }
    }

    // ---- rendering

    int render(int t) {
        if (t < 0 || t > 9) throw new IndexOutOfBoundsException();
        before = output;
        output = new ArrayList<>();
        waits = false;
        steps = 0;
        hits = 0;
        open = 0;
        births = 0;
        recordings.clear();
        try {
            Env env = new Env();
            env.scope = new Scope(null, births++);
            env.line = lineOf(t);
            renderAll(bodyOf(env.line), env);
            return output.size();
        } catch (Fail f) {
            output = new ArrayList<>();
            return f.code;
        }
    }

    List<Integer> lineOf(int t) {
        List<Integer> line = new ArrayList<>();
        for (int at = t; at != -1; at = trees[at].parent) {
            if (line.contains(at)) throw new Fail(-8);
            line.add(at);
        }
        return line;
    }

    List<Part> bodyOf(List<Integer> line) {
        return trees[line.get(line.size() - 1)].body;
    }

    void put(Cell c) {
        if (output.size() == 300) throw new Fail(-10);
        output.add(c);
        waits = false;
    }

    void putSafe(String s, int source) {
        for (char c : s.toCharArray()) put(new Cell(c, c, false, 0, source, false));
    }

    void putUnsafe(String s, int source) {
        for (char c : s.toCharArray()) {
            String e = escape(c, context(output.size()));
            for (int i = 0; i < e.length(); i++) put(new Cell(e.charAt(i), c, true, i, source, false));
        }
    }

    Part find(String tag, int digit, List<Integer> line) {
        for (int t : line) {
            for (Part p : trees[t].all) {
                if (p.tag.equals(tag) && p.digit == digit) return p;
            }
        }
        return null;
    }

    Env inner(Env env) {
        Env e = env.copy();
        e.scope = new Scope(env.scope, births++);
        return e;
    }

    interface Run {
        void run();
    }

    void opened(Run r) {
        if (open == 12) throw new Fail(-8);
        open++;
        r.run();
        open--;
    }

    void pay() {
        if (steps == budget) throw new Fail(-9);
        steps++;
    }

    void renderAll(List<Part> body, Env env) {
        for (Part p : body) render(p, env);
    }

    void render(Part p, Env env) {
        if (p.tag.equals("$")) return;
        pay();
        int source = 100 * p.template + p.place;
        switch (p.tag) {
            case "literal":
                if (!(waits && p.letter == ' ')) put(new Cell(p.letter, p.letter, false, 0, source, true));
                break;
            case "=": {
                Object v = find(p.e, env.scope);
                if (v == null) throw new Fail(-2);
                if (v instanceof List) throw new Fail(-3);
                if (v instanceof Integer) putSafe(v.toString(), source);
                if (v instanceof Text t && t.safe()) putSafe(t.signs(), source);
                if (v instanceof Text t && !t.safe()) putUnsafe(t.signs(), source);
                break;
            }
            case "%":
                env.scope.variables.put(p.letter, wrap(find(p.e, env.scope)));
                break;
            case "?":
                renderAll(isTrue(find(p.e, env.scope)) ? p.body : p.second, env);
                break;
            case "*": {
                if (!(find(p.e, env.scope) instanceof List<?> l)) throw new Fail(-3);
                for (Object item : l) {
                    pay();
                    Env in = inner(env);
                    in.scope.variables.put(p.letter, item);
                    renderAll(p.body, in);
                }
                if (l.isEmpty()) renderAll(p.second, env);
                break;
            }
            case "+": {
                List<Cell> was = new ArrayList<>(output);
                boolean waited = waits;
                int opened = open;
                int recorded = recordings.size();
                try {
                    renderAll(p.body, inner(env));
                } catch (Fail f) {
                    if (f.code == -9) throw f;
                    output = was;
                    waits = waited;
                    open = opened;
                    while (recordings.size() > recorded) recordings.remove(recorded);
                    renderAll(p.second, env);
                }
                break;
            }
            case "#": {
                Part b = find("#", p.digit, env.line);
                opened(() -> renderAll(b.body, inner(env)));
                break;
            }
            case "^": {
                int i = env.line.indexOf(p.template);
                Part b = p.block < 0 ? null : find("#", p.block, env.line.subList(i + 1, env.line.size()));
                if (b == null) throw new Fail(-7);
                opened(() -> renderAll(b.body, inner(env)));
                break;
            }
            case "@": {
                Env in = inner(env);
                in.callersBody = null;
                in.site = null;
                opened(() -> {
                    in.line = lineOf(p.digit);
                    renderAll(bodyOf(in.line), in);
                });
                break;
            }
            case "!": case "&":
                call(p, env);
                break;
            case "~":
                for (Recording r : recordings) r.spoilt = true;
                if (env.callersBody != null) opened(() -> renderAll(env.callersBody.body, inner(env.site)));
                break;
            case "-":
                for (Recording r : recordings) r.spoilt = true;
                while (!output.isEmpty() && output.get(output.size() - 1).literal() && output.get(output.size() - 1).sign() == ' ') {
                    output.remove(output.size() - 1);
                }
                waits = true;
                break;
            case "t": {
                if (!(find(p.e, env.scope) instanceof Integer n)) throw new Fail(-3);
                putSafe(forms[p.digit][n == 1 ? 0 : 1].replace("#", n.toString()), source);
                break;
            }
            case "k":
                fragment(p, env);
                break;
            default:
                throw new IllegalStateException(p.tag);
        }
    }

    void call(Part p, Env env) {
        Part m = find("$", p.digit, env.line);
        if (m == null) throw new Fail(-6);
        Scope scope = new Scope(null, births++);
        int unnamed = 0;
        for (int i = 0; i < p.names.size(); i++) {
            Object v = find(p.values.get(i), env.scope);
            Character to = p.names.get(i);
            if (to == null) {
                to = unnamed < m.names.size() ? m.names.get(unnamed) : null;
                unnamed++;
            }
            if (to == null || !m.names.contains(to) || scope.variables.containsKey(to)) throw new Fail(-6);
            scope.variables.put(to, wrap(v));
        }
        for (int i = 0; i < m.names.size(); i++) {
            if (!scope.variables.containsKey(m.names.get(i))) {
                Ex d = m.values.get(i);
                scope.variables.put(m.names.get(i), wrap(d == null ? null : find(d, scope)));
            }
        }
        Env in = env.copy();
        in.scope = scope;
        in.callersBody = p.tag.equals("&") ? p : null;
        in.site = env;
        opened(() -> renderAll(m.body, in));
    }

    void fragment(Part p, Env env) {
        Kept k = kept.get(p.digit);
        if (k != null && k.template() == p.template && k.place() == p.place && k.line().equals(env.line)
                && k.context() == context(output.size()) && k.waits() == waits && hasValues(k, env)) {
            hits++;
            for (String key : k.reads().keySet()) {
                read(key.charAt(1), key.charAt(0) == 's' ? env.scope : null);
            }
            for (Cell c : k.cells()) put(c);
            return;
        }
        Env in = inner(env);
        Recording r = new Recording();
        r.own = in.scope;
        int from = output.size();
        int context = context(from);
        boolean waited = waits;
        opened(() -> {
            recordings.add(r);
            renderAll(p.body, in);
            recordings.remove(r);
        });
        if (!r.spoilt) {
            kept.put(p.digit, new Kept(p.template, p.place, env.line, context, waited, r.reads,
                    new ArrayList<>(output.subList(from, output.size()))));
        }
    }

    boolean hasValues(Kept k, Env env) {
        for (Map.Entry<String, Object> e : k.reads().entrySet()) {
            Object now = look(e.getKey().charAt(1), e.getKey().charAt(0) == 's' ? env.scope : null, null);
            if (!Objects.equals(now, e.getValue())) return false;
        }
        return true;
    }

    // ---- expressions

    static final Object NOTHING = "nothing";

    static Object wrap(Object v) {
        return v == null ? NOTHING : v;
    }

    Object look(char name, Scope from, Scope[] holder) {
        for (Scope s = from; s != null; s = s.behind) {
            if (s.variables.containsKey(name)) {
                if (holder != null) holder[0] = s;
                Object v = s.variables.get(name);
                return v == NOTHING ? null : v;
            }
        }
        return data.get(name);
    }

    Object read(char name, Scope from) {
        Scope[] holder = new Scope[1];
        Object v = look(name, from, holder);
        for (Recording r : recordings) {
            if (holder[0] == null || holder[0].born < r.own.born) {
                boolean throughTag = false;
                for (Scope s = from; s != null; s = s.behind) throughTag |= s == r.own.behind;
                r.reads.putIfAbsent((throughTag ? "s" : "d") + name, v);
            }
        }
        return v;
    }

    static boolean isTrue(Object v) {
        if (v instanceof Integer n) return n != 0;
        if (v instanceof Text t) return !t.signs().isEmpty();
        if (v instanceof List<?> l) return !l.isEmpty();
        return false;
    }

    static boolean like(Object a, Object b) {
        if (a == null || b == null) return a == b;
        if (a instanceof Text s && b instanceof Text t) return s.signs().equals(t.signs());
        if (a instanceof List<?> l && b instanceof List<?> m) {
            if (l.size() != m.size()) return false;
            for (int i = 0; i < l.size(); i++) if (!like(l.get(i), m.get(i))) return false;
            return true;
        }
        return a.equals(b);
    }

    static Object number(long n) {
        if (n < Integer.MIN_VALUE || n > Integer.MAX_VALUE) throw new Fail(-5);
        return (int) n;
    }

    static Object full(Text t) {
        if (t.signs().length() > 300) throw new Fail(-10);
        return t;
    }

    static Text needText(Object v) {
        if (v instanceof Text t) return t;
        throw new Fail(-3);
    }

    Object find(Ex e, Scope s) {
        switch (e.op) {
            case "number":
                return e.number;
            case "quote":
                return new Text(e.quote, true);
            case "variable":
                return read(e.letter, s);
            case "item": {
                if (!(read(e.letter, s) instanceof List<?> l)) throw new Fail(-3);
                if (e.number >= l.size()) throw new Fail(-4);
                return l.get(e.number);
            }
            case "!":
                return isTrue(find(e.a, s)) ? 0 : 1;
            case "&":
                return isTrue(find(e.a, s)) && isTrue(find(e.b, s)) ? 1 : 0;
            case "?": {
                Object a = find(e.a, s);
                return isTrue(a) ? a : find(e.b, s);
            }
            case "|d": {
                Object a = find(e.a, s);
                return a != null ? a : find(e.b, s);
            }
            case "|u": {
                Text t = needText(find(e.a, s));
                return new Text(t.signs().toUpperCase(java.util.Locale.ROOT), t.safe());
            }
            case "|l": {
                Object a = find(e.a, s);
                return a instanceof List<?> l ? l.size() : needText(a).signs().length();
            }
            case "|r":
                return new Text(needText(find(e.a, s)).signs(), true);
            case "|n": {
                String t = needText(find(e.a, s)).signs();
                return t.matches("-?[0-9]{1,9}") ? Integer.parseInt(t) : null;
            }
            case "|j": {
                if (!(find(e.a, s) instanceof List<?> l)) throw new Fail(-3);
                List<String> parts = new ArrayList<>();
                boolean safe = true;
                for (Object item : l) {
                    parts.add(item instanceof Text t ? t.signs() : item.toString());
                    safe &= !(item instanceof Text t) || t.safe();
                }
                return full(new Text(String.join(",", parts), safe));
            }
            default:
                return operate(e.op, find(e.a, s), find(e.b, s));
        }
    }

    static Object operate(String op, Object a, Object b) {
        if (op.equals("=")) return like(a, b) ? 1 : 0;
        if (a instanceof Integer m && b instanceof Integer n) {
            long x = m, y = n;
            return switch (op) {
                case "+" -> number(x + y);
                case "-" -> number(x - y);
                case "*" -> number(x * y);
                default -> x < y ? 1 : 0;
            };
        }
        if (a instanceof Text s && b instanceof Text t) {
            if (op.equals("+")) return full(new Text(s.signs() + t.signs(), s.safe() && t.safe()));
            if (op.equals("<")) return s.signs().compareTo(t.signs()) < 0 ? 1 : 0;
        }
        throw new Fail(-3);
    }

    // ---- looking ahead

    int mayEnd(int t) {
        if (t < 0 || t > 9) throw new IndexOutOfBoundsException();
        Set<Character> set = new HashSet<>();
        for (Part p : trees[t].all) if (p.tag.equals("%")) set.add(p.letter);
        int bits = 0;
        for (int c : through(trees[t].body, new TreeSet<>(Set.of(0)), set)) bits |= 1 << c;
        return bits;
    }

    static final Set<Integer> ALL = Set.of(0, 1, 2, 3, 4, 5, 6, 7);

    static Set<Integer> through(List<Part> body, Set<Integer> from, Set<Character> changed) {
        Set<Integer> now = new TreeSet<>(from);
        for (Part p : body) {
            Set<Integer> next = new TreeSet<>();
            switch (p.tag) {
                case "literal":
                    for (int c : now) next.add(lead(c, p.letter));
                    if (p.letter == ' ') next.addAll(now);
                    break;
                case "-":
                    next.addAll(now);
                    if (now.contains(2)) next.add(1);
                    break;
                case "=":
                    next.addAll(now);
                    if (now.contains(1)) next.add(2);
                    if (free(p.e, changed)) next.addAll(ALL);
                    break;
                case "?": case "+":
                    next.addAll(through(p.body, now, changed));
                    next.addAll(through(p.second, now, changed));
                    break;
                case "*": {
                    Set<Integer> in = new TreeSet<>(now);
                    while (in.addAll(through(p.body, in, changed))) {
                        continue;
                    }
                    next.addAll(through(p.body, in, changed));
                    next.addAll(through(p.second, now, changed));
                    break;
                }
                case "k":
                    next.addAll(through(p.body, now, changed));
                    break;
                case "%": case "$":
                    next.addAll(now);
                    break;
                default:
                    next.addAll(ALL);
            }
            now = next;
        }
        return now;
    }

    static boolean free(Ex e, Set<Character> changed) {
        if (e == null) return false;
        if (e.op.equals("quote") || e.op.equals("|r")) return true;
        if (e.op.equals("variable") || e.op.equals("item")) return changed.contains(e.letter);
        return free(e.a, changed) || free(e.b, changed);
    }

    int shape(char name, int kinds) {
        if (name < 'a' || name > 'z' || kinds < 1 || kinds > 15) throw new IllegalArgumentException();
        int was = shapes[name - 'a'];
        shapes[name - 'a'] = kinds;
        return was;
    }

    static final class Found extends RuntimeException {
        private static final long serialVersionUID = 1;
        final int place;

        Found(int place) {
            super(null, null, false, false);
            this.place = place;
        }
    }

    int check(int t) {
        if (t < 0 || t > 9) throw new IndexOutOfBoundsException();
        Map<Character, Integer> kinds = new HashMap<>();
        for (int i = 0; i < 26; i++) kinds.put((char) ('a' + i), shapes[i]);
        try {
            check(trees[t].body, kinds);
            return -1;
        } catch (Found f) {
            return f.place;
        }
    }

    void check(List<Part> body, Map<Character, Integer> outer) {
        Map<Character, Integer> kinds = new HashMap<>(outer);
        for (Part p : body) {
            if (p.tag.equals("$")) continue;
            int k = 0;
            if (p.e != null) {
                k = kinds(p.e, kinds, p.place);
                int wrong = p.tag.equals("=") ? 1 + 8 : p.tag.equals("*") ? 1 + 2 + 4 : p.tag.equals("t") ? 1 + 4 + 8 : 0;
                if ((k & wrong) != 0) throw new Found(p.place);
            }
            for (Ex e : p.values) kinds(e, kinds, p.place);
            Map<Character, Integer> first = new HashMap<>(kinds);
            if (p.tag.equals("*")) first.put(p.letter, 6);
            if (p.tag.equals("?") && p.e.op.equals("variable")) first.put(p.e.letter, first.get(p.e.letter) & 14);
            check(p.body, first);
            check(p.second, kinds);
            if (p.tag.equals("%")) kinds.put(p.letter, k);
        }
    }

    static void need(int kinds, int right, int place) {
        if ((kinds & ~right) != 0) throw new Found(place);
    }

    static int kinds(Ex e, Map<Character, Integer> env, int place) {
        switch (e.op) {
            case "number":
                return 2;
            case "quote":
                return 4;
            case "variable":
                return env.get(e.letter);
            case "item":
                need(env.get(e.letter), 8, place);
                return env.get(e.letter) == 0 ? 0 : 6;
            default:
                break;
        }
        int a = kinds(e.a, env, place);
        int b = e.b == null ? 15 : kinds(e.b, env, place);
        if (a == 0 || b == 0) return 0;
        switch (e.op) {
            case "!": case "&": case "=":
                return 2;
            case "-": case "*":
                need(a | b, 2, place);
                return 2;
            case "+": case "<":
                if (!(a == 2 && b == 2) && !(a == 4 && b == 4)) throw new Found(place);
                return e.op.equals("<") ? 2 : a;
            case "?": case "|d":
                return (a & 14) | b;
            case "|u": case "|r":
                need(a, 4, place);
                return 4;
            case "|l":
                need(a, 12, place);
                return 2;
            case "|j":
                need(a, 8, place);
                return 4;
            case "|n":
                need(a, 4, place);
                return 3;
            default:
                throw new IllegalStateException(e.op);
        }
    }

    // ---- from a text that is a template to its tree

    static final class Maker {
        final String s;
        final int template;
        final Tree tree = new Tree();
        int at;

        Maker(String s, int template) {
            this.s = s;
            this.template = template;
        }

        Tree make() {
            if (s.startsWith("{<")) {
                tree.parent = s.charAt(2) - '0';
                tree.tags++;
                at = 4;
            }
            tree.body = body(-1);
            return tree;
        }

        List<Part> body(int block) {
            List<Part> parts = new ArrayList<>();
            while (at < s.length() && !s.startsWith("{;}", at) && !s.startsWith("{:}", at)) {
                Part p = new Part();
                p.template = template;
                p.place = at;
                parts.add(p);
                if (s.charAt(at) != '{') {
                    p.tag = "literal";
                    p.letter = s.charAt(at++);
                } else {
                    tag(p, block);
                }
            }
            return parts;
        }

        void tag(Part p, int block) {
            tree.tags++;
            tree.all.add(p);
            p.tag = s.substring(at + 1, at + 2);
            at += 2;
            p.block = block;
            if ("#@k$!&t".contains(p.tag)) p.digit = s.charAt(at++) - '0';
            if ("*%".contains(p.tag)) p.letter = s.charAt(at++);
            if ("=?*%t".contains(p.tag)) p.e = expression();
            if (p.tag.equals("$")) {
                while (s.charAt(at) != '}') {
                    p.names.add(s.charAt(at++));
                    boolean given = s.charAt(at) == '=';
                    if (given) at++;
                    p.values.add(given ? primary() : null);
                }
            }
            if ("!&".contains(p.tag)) {
                while (s.charAt(at) != '}') {
                    if (s.charAt(at) == ',') at++;
                    boolean named = Character.isLetter(s.charAt(at)) && s.charAt(at + 1) == ':';
                    p.names.add(named ? s.charAt(at) : null);
                    if (named) at += 2;
                    p.values.add(expression());
                }
            }
            at++;
            if ("?*+#$&k".contains(p.tag)) {
                int in = p.tag.equals("#") ? p.digit : block;
                p.body = body(in);
                if (s.startsWith("{:}", at)) {
                    at += 3;
                    p.second = body(in);
                }
                at += 3;
            }
            if (p.tag.equals("$")) {
                // a macro's parameters are not an expression of the tag in check
                p.e = null;
            }
        }

        Ex expression() {
            Ex e = primary();
            while (s.charAt(at) == '|') {
                Ex f = new Ex();
                f.op = s.substring(at, at + 2);
                at += 2;
                f.a = e;
                if (f.op.equals("|d")) f.b = primary();
                e = f;
            }
            return e;
        }

        Ex primary() {
            Ex e = new Ex();
            char c = s.charAt(at);
            if (c == '\'') {
                int end = s.indexOf('\'', at + 1);
                e.op = "quote";
                e.quote = s.substring(at + 1, end);
                at = end + 1;
            } else if (c == '!') {
                at++;
                e.op = "!";
                e.a = expression();
            } else if (c == '(') {
                at++;
                e.a = expression();
                e.op = s.substring(at, at + 1);
                at++;
                e.b = expression();
                at++;
            } else if (Character.isDigit(c)) {
                int from = at;
                while (Character.isDigit(s.charAt(at))) at++;
                e.op = "number";
                e.number = Integer.parseInt(s.substring(from, at));
            } else {
                e.letter = c;
                at++;
                e.op = "variable";
                if (s.charAt(at) == '.') {
                    e.op = "item";
                    e.number = s.charAt(at + 1) - '0';
                    at += 2;
                }
            }
            return e;
        }
    }
}
