/** Writes texts that are templates, or nearly so. */
final class Writer {
    private static final String KINDS = "=?*+#^@$!&~%-tk.";

    private final Chance chance;
    /** Each writer has tags that it likes, so that these meet one another often. */
    private final StringBuilder liked = new StringBuilder();
    private final int digits;
    private final int plain;
    /** Writes what seldom fails, so that much is rendered and kept. */
    private final boolean gentle;
    private boolean includes;
    private int blocks;

    Writer(Chance chance, boolean gentle) {
        this.chance = chance;
        this.gentle = gentle;
        digits = 1 + chance.below(2);
        plain = chance.below(5);
        for (char kind : KINDS.toCharArray()) {
            int times = chance.in(4) ? 8 : chance.in(3) ? 0 : 1 + chance.below(2);
            for (int i = 0; i < times; i++) liked.append(kind);
        }
        liked.append(gentle ? "=kk" : "=");
    }

    /** The text of a template, and of a gentle one if it is the template that others include. */
    String template(int most, boolean isIncluded) {
        includes = !isIncluded;
        for (int i = 0; i < 1000; i++) {
            blocks = 0;
            String s = gentle ? gentleTemplate(isIncluded) : (chance.in(3) ? "{<" + chance.below(4) + "}" : "") + body(0, 6);
            if (s.length() <= most) return s;
        }
        return "";
    }

    private String gentleTemplate(boolean isIncluded) {
        String macro = chance.in(2) ? "{$0" + parameters() + "}" + body(3, 4) + "{;}" : "";
        return isIncluded || chance.in(2) ? macro + body(0, 6) : "{<3}{#0}" + body(1, 5) + (chance.in(2) ? "{^}" : "") + "{;}" + macro;
    }

    String spoilt(String s) {
        StringBuilder b = new StringBuilder(s);
        int times = 1 + chance.below(2);
        for (int i = 0; i < times && b.length() > 0; i++) {
            int at = chance.below(b.length());
            switch (chance.below(4)) {
                case 0:
                    b.deleteCharAt(at);
                    break;
                case 1:
                    b.setCharAt(at, chance.among("{}:;=abl'().|,!019+ <"));
                    break;
                case 2:
                    b.insert(at, chance.among("{}:;=abl'().|,!019+ <"));
                    break;
                default:
                    b.setLength(at);
                    break;
            }
        }
        return b.length() > 80 ? b.substring(0, 80) : b.toString();
    }

    String body(int depth, int most) {
        StringBuilder b = new StringBuilder();
        int parts = chance.below(depth == 0 ? most : 4);
        for (int i = 0; i < parts; i++) b.append(chance.below(10) < 4 ? literals() : tag(depth));
        return b.toString();
    }

    private String literals() {
        String[] some = {" ", "  ", "a", "<", ">", "\"", "<s", "'", "\\", "&", "q ", " b", "<s>", "x"};
        return some[chance.below(some.length)];
    }

    private String tag(int depth) {
        if (depth > 4) return literals();
        int in = depth + 1;
        switch (chance.among(liked.toString())) {
            case '=':
                return "{=" + expression(0) + "}";
            case '?':
                return "{?" + expression(0) + "}" + body(in, 3) + (chance.in(2) ? "{:}" + body(in, 3) : "") + "{;}";
            case '*':
                return "{*" + letter() + (gentle ? "l" : chance.in(4) ? expression(0) : "" + chance.among("lm")) + "}" + body(in, 3)
                        + (chance.in(3) ? "{:}" + body(in, 3) : "") + "{;}";
            case '+':
                return "{+}" + body(in, 3) + "{:}" + body(in, 3) + "{;}";
            case '#': {
                blocks++;
                String block = "{#" + digit() + "}" + body(in, 3) + "{;}";
                blocks--;
                return block;
            }
            case '^':
                return gentle && (blocks == 0 || !includes) ? "" : "{^}";
            case '@':
                return gentle ? includes ? "{@3}" : "" : "{@" + chance.below(4) + "}";
            case '$':
                return "{$" + digit() + parameters() + "}" + body(in, 3) + "{;}";
            case '!':
                return "{!" + digit() + arguments() + "}";
            case '&':
                return "{&" + digit() + arguments() + "}" + body(in, 3) + "{;}";
            case '~':
                return "{~}";
            case '%':
                return "{%" + letter() + expression(0) + "}";
            case '-':
                return "{-}";
            case 't':
                return "{t" + digit() + expression(0) + "}";
            case 'k':
                return "{k" + digit() + "}" + body(in, 3) + "{;}";
            default:
                return literals();
        }
    }

    private int digit() {
        return gentle ? 0 : chance.below(digits);
    }

    private char letter() {
        return chance.among(gentle ? "aabbcx" : "aabbcxylm");
    }

    private static final String[] GENTLE_PARAMETERS = {"ab", "ab=1", "a=bb", "a=1b=2", "a='q'b=(a?1)", "abx=b"};

    private String parameters() {
        if (gentle) return GENTLE_PARAMETERS[chance.below(GENTLE_PARAMETERS.length)];
        StringBuilder b = new StringBuilder();
        String had = "";
        int n = chance.below(4);
        for (int i = 0; i < n; i++) {
            char c = letter();
            if (had.indexOf(c) >= 0) continue;
            had += c;
            b.append(c);
            if (chance.in(3)) b.append('=').append(primary(1));
        }
        return b.toString();
    }

    private String arguments() {
        StringBuilder b = new StringBuilder();
        int n = chance.below(gentle ? 3 : 4);
        for (int i = 0; i < n; i++) {
            if (i > 0) b.append(',');
            if (chance.in(gentle ? 9 : 4)) b.append(letter()).append(':');
            b.append(expression(1));
        }
        return b.toString();
    }

    private String gentleExpression(int depth) {
        char v = letter();
        String[] some = {v + "|d0", v + "|d'<'", v + "|d" + letter(), "(" + v + "=" + letter() + ")", "(" + v + "?2)", "!" + v, "l|j", "l|l", "l.0",
            "" + chance.below(3), "'a '", "" + v};
        return some[chance.below(depth == 0 ? some.length : some.length - 1)];
    }

    String expression(int depth) {
        if (gentle) return gentleExpression(depth);
        if (chance.below(5) < plain) return "" + letter();
        StringBuilder b = new StringBuilder(primary(depth));
        while (chance.in(4)) {
            char c = chance.among("ulrjnd");
            b.append('|').append(c);
            if (c == 'd') b.append(primary(depth + 1));
        }
        return b.toString();
    }

    private String primary(int depth) {
        int k = chance.below(depth > 3 ? 7 : 10);
        switch (k) {
            case 0:
                return "" + chance.below(chance.in(5) ? 10000 : 4);
            case 1:
                return "'" + (chance.in(4) ? "" : "" + chance.among("<a\" x>")) + (chance.in(3) ? "b<" : "") + "'";
            case 2:
                return chance.among("lma") + "." + chance.below(chance.in(4) ? 10 : 3);
            case 7: case 8:
                return "(" + expression(depth + 1) + chance.among("+-*<=&?+") + expression(depth + 1) + ")";
            case 9:
                return "!" + expression(depth + 1);
            default:
                return "" + letter();
        }
    }
}
