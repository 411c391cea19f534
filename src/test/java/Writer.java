/** Writes texts that are templates, or nearly so. */
final class Writer {
    private static final String KINDS = "=?*+#^@$!&~%-tk.";

    private final Chance chance;
    /** Each writer has tags that it likes, so that these meet one another often. */
    private final StringBuilder liked = new StringBuilder();
    private final int digits;
    private final int plain;

    Writer(Chance chance) {
        this.chance = chance;
        digits = 1 + chance.below(2);
        plain = chance.below(5);
        for (char kind : KINDS.toCharArray()) {
            int times = chance.in(4) ? 8 : chance.in(3) ? 0 : 1 + chance.below(2);
            for (int i = 0; i < times; i++) liked.append(kind);
        }
        liked.append('=');
    }

    String template(int most) {
        for (int i = 0; i < 1000; i++) {
            String s = (chance.in(3) ? "{<" + chance.below(4) + "}" : "") + body(0, 6);
            if (s.length() <= most) return s;
        }
        return "";
    }

    String spoilt(String s) {
        StringBuilder b = new StringBuilder(s);
        int times = 1 + chance.below(2);
        for (int i = 0; i < times && b.length() > 0; i++) {
            int at = chance.below(b.length());
            switch (chance.below(4)) {
                case 0:
                    b.deleteCharAt(at);
                    break;
                case 1:
                    b.setCharAt(at, chance.among("{}:;=abl'().|,!019+ <"));
                    break;
                case 2:
                    b.insert(at, chance.among("{}:;=abl'().|,!019+ <"));
                    break;
                default:
                    b.setLength(at);
                    break;
            }
        }
        return b.length() > 80 ? b.substring(0, 80) : b.toString();
    }

    String body(int depth, int most) {
        StringBuilder b = new StringBuilder();
        int parts = chance.below(depth == 0 ? most : 4);
        for (int i = 0; i < parts; i++) b.append(chance.below(10) < 4 ? literals() : tag(depth));
        return b.toString();
    }

    private String literals() {
        String[] some = {" ", "  ", "a", "<", ">", "\"", "<s", "'", "\\", "&", "q ", " b", "<s>", "x"};
        return some[chance.below(some.length)];
    }

    private String tag(int depth) {
        if (depth > 4) return literals();
        int in = depth + 1;
        switch (chance.among(liked.toString())) {
            case '=':
                return "{=" + expression(0) + "}";
            case '?':
                return "{?" + expression(0) + "}" + body(in, 3) + (chance.in(2) ? "{:}" + body(in, 3) : "") + "{;}";
            case '*':
                return "{*" + letter() + (chance.in(4) ? expression(0) : "" + chance.among("lm")) + "}" + body(in, 3)
                        + (chance.in(3) ? "{:}" + body(in, 3) : "") + "{;}";
            case '+':
                return "{+}" + body(in, 3) + "{:}" + body(in, 3) + "{;}";
            case '#':
                return "{#" + digit() + "}" + body(in, 3) + "{;}";
            case '^':
                return "{^}";
            case '@':
                return "{@" + chance.below(4) + "}";
            case '$':
                return "{$" + digit() + parameters() + "}" + body(in, 3) + "{;}";
            case '!':
                return "{!" + digit() + arguments() + "}";
            case '&':
                return "{&" + digit() + arguments() + "}" + body(in, 3) + "{;}";
            case '~':
                return "{~}";
            case '%':
                return "{%" + letter() + expression(0) + "}";
            case '-':
                return "{-}";
            case 't':
                return "{t" + digit() + expression(0) + "}";
            case 'k':
                return "{k" + digit() + "}" + body(in, 3) + "{;}";
            default:
                return literals();
        }
    }

    private int digit() {
        return chance.below(digits);
    }

    private char letter() {
        return chance.among("aabbcxylm");
    }

    private String parameters() {
        StringBuilder b = new StringBuilder();
        String had = "";
        int n = chance.below(4);
        for (int i = 0; i < n; i++) {
            char c = letter();
            if (had.indexOf(c) >= 0) continue;
            had += c;
            b.append(c);
            if (chance.in(3)) b.append('=').append(primary(1));
        }
        return b.toString();
    }

    private String arguments() {
        StringBuilder b = new StringBuilder();
        int n = chance.below(4);
        for (int i = 0; i < n; i++) {
            if (i > 0) b.append(',');
            if (chance.in(4)) b.append(letter()).append(':');
            b.append(expression(1));
        }
        return b.toString();
    }

    String expression(int depth) {
        if (chance.below(5) < plain) return "" + letter();
        StringBuilder b = new StringBuilder(primary(depth));
        while (chance.in(4)) {
            char c = chance.among("ulrjnd");
            b.append('|').append(c);
            if (c == 'd') b.append(primary(depth + 1));
        }
        return b.toString();
    }

    private String primary(int depth) {
        int k = chance.below(depth > 3 ? 7 : 10);
        switch (k) {
            case 0:
                return "" + chance.below(chance.in(5) ? 10000 : 4);
            case 1:
                return "'" + (chance.in(4) ? "" : "" + chance.among("<a\" x>")) + (chance.in(3) ? "b<" : "") + "'";
            case 2:
                return chance.among("lma") + "." + chance.below(chance.in(4) ? 10 : 3);
            case 7: case 8:
                return "(" + expression(depth + 1) + chance.among("+-*<=&?+") + expression(depth + 1) + ")";
            case 9:
                return "!" + expression(depth + 1);
            default:
                return "" + letter();
        }
    }
}
