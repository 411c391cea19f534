import java.util.ArrayList;
import java.util.HashMap;
import java.util.List;
import java.util.Map;
import java.util.TreeSet;

/**
 * The grammar of the document as it stands there, tried in every way at once:
 * each rule gives all the places where it may end. A text can go on if some way
 * through the rules asks for a character behind its end, for every rule can be
 * ended somehow.
 */
final class Grammar {
    private final String text;
    private boolean asked;
    private final Map<String, TreeSet<Integer>> known = new HashMap<>();

    private Grammar(String text) {
        this.text = text;
    }

    /** A text that can go on can go on from each of its beginnings, so the fault is searched by halves. */
    static int fault(String text) {
        if (isTemplate(text)) return -1;
        int fine = 0;
        int ill = text.length() + 1;
        while (ill - fine > 1) {
            int middle = (fine + ill) / 2;
            Grammar g = new Grammar(text.substring(0, middle));
            if (g.template().contains(middle) || g.asked) fine = middle;
            else ill = middle;
        }
        return fine;
    }

    static boolean isTemplate(String text) {
        return new Grammar(text).template().contains(text.length());
    }

    private interface Rule {
        TreeSet<Integer> ends(int at);
    }

    private static TreeSet<Integer> set(int... places) {
        TreeSet<Integer> s = new TreeSet<>();
        for (int p : places) s.add(p);
        return s;
    }

    private Rule among(String signs) {
        return at -> {
            if (at >= text.length()) {
                asked = true;
                return set();
            }
            return signs.indexOf(text.charAt(at)) >= 0 ? set(at + 1) : set();
        };
    }

    private Rule butFor(String signs) {
        return at -> {
            if (at >= text.length()) {
                asked = true;
                return set();
            }
            return signs.indexOf(text.charAt(at)) < 0 ? set(at + 1) : set();
        };
    }

    private Rule word(String w) {
        List<Rule> rules = new ArrayList<>();
        for (int i = 0; i < w.length(); i++) rules.add(among(w.substring(i, i + 1)));
        return then(rules.toArray(new Rule[0]));
    }

    private Rule then(Rule... rules) {
        return at -> {
            TreeSet<Integer> now = set(at);
            for (Rule r : rules) {
                TreeSet<Integer> next = set();
                for (int p : now) next.addAll(r.ends(p));
                now = next;
            }
            return now;
        };
    }

    private Rule or(Rule... rules) {
        return at -> {
            TreeSet<Integer> all = set();
            for (Rule r : rules) all.addAll(r.ends(at));
            return all;
        };
    }

    private Rule some(Rule rule, int most) {
        return at -> {
            TreeSet<Integer> all = set(at);
            TreeSet<Integer> now = set(at);
            for (int i = 0; i < most && !now.isEmpty(); i++) {
                TreeSet<Integer> next = set();
                for (int p : now) {
                    for (int q : rule.ends(p)) if (all.add(q)) next.add(q);
                }
                now = next;
            }
            return all;
        };
    }

    private Rule known(String name, java.util.function.Supplier<Rule> rule) {
        return at -> {
            TreeSet<Integer> got = known.get(name + at);
            if (got == null) {
                got = rule.get().ends(at);
                known.put(name + at, got);
            }
            return got;
        };
    }

    private final Rule d = among("0123456789");
    private final Rule v = among("abcdefghijklmnopqrstuvwxyz");

    private TreeSet<Integer> template() {
        return or(body(), then(word("{<"), d, word("}"), body())).ends(0);
    }

    private Rule body() {
        return known("body", () -> some(or(butFor("{}"), tag()), 1000));
    }

    private Rule tag() {
        return known("tag", () -> or(
                then(word("{="), e(), word("}")),
                then(word("{?"), e(), word("}"), body(), word("{;}")),
                then(word("{?"), e(), word("}"), body(), word("{:}"), body(), word("{;}")),
                then(word("{*"), v, e(), word("}"), body(), word("{;}")),
                then(word("{*"), v, e(), word("}"), body(), word("{:}"), body(), word("{;}")),
                then(word("{+}"), body(), word("{:}"), body(), word("{;}")),
                then(word("{#"), d, word("}"), body(), word("{;}")),
                word("{^}"),
                then(word("{@"), d, word("}")),
                then(word("{$"), d, parameters("", 0), word("}"), body(), word("{;}")),
                then(word("{!"), d, arguments(), word("}")),
                then(word("{&"), d, arguments(), word("}"), body(), word("{;}")),
                word("{~}"),
                then(word("{%"), v, e(), word("}")),
                word("{-}"),
                then(word("{t"), d, e(), word("}")),
                then(word("{k"), d, word("}"), body(), word("{;}"))));
    }

    /** Never the same letter twice, so it carries those that it has had. */
    private Rule parameters(String had, int count) {
        return at -> {
            TreeSet<Integer> all = set(at);
            if (count == 3) return all;
            for (int p : butFor("{}=.|,:;()!'+-*<&?0123456789" + had).ends(at)) {
                char letter = text.charAt(at);
                if (letter < 'a' || letter > 'z') continue;
                all.addAll(or(parameters(had + letter, count + 1),
                        then(word("="), primary(), parameters(had + letter, count + 1))).ends(p));
            }
            return all;
        };
    }

    private Rule arguments() {
        Rule one = or(e(), then(v, word(":"), e()));
        Rule more = then(word(","), one);
        return at -> or(then(), one, then(one, more), then(one, more, more)).ends(at);
    }

    private Rule e() {
        return known("e", () -> then(primary(), some(filter(), 1000)));
    }

    private Rule filter() {
        return known("filter", () -> or(then(word("|"), among("ulrjn")), then(word("|d"), primary())));
    }

    private Rule primary() {
        return known("primary", () -> or(
                then(d, some(d, 3)),
                then(word("'"), some(butFor("'{}"), 1000), word("'")),
                v,
                then(v, word("."), d),
                then(word("("), e(), among("+-*<=&?"), e(), word(")")),
                then(word("!"), e())));
    }
}
