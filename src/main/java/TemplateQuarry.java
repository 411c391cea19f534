/**
 * A template language with inheritance, macros and escaping by context, in a
 * sandbox with budgets. What it does stands in DOC.md; README.md tells how to
 * use it and how this file is laid out.
 */
public final class TemplateQuarry {
    public static final int NONE = -1;
    public static final int NOTHING = -2, TYPE = -3, INDEX = -4, NUMBER = -5, MACRO = -6, BLOCK = -7, DEPTH = -8, STEPS = -9, FULL = -10;
    public static final int TEXT = 0, OPENED = 1, TAG = 2, QUOTED = 3, SCRIPT_TAG = 4, SCRIPT_QUOTED = 5, SCRIPT = 6, STRING = 7;

    // Templates, messages, blocks, macros and fragments are all named by a digit.
    private static final int DIGITS = 10;
    private static final int LETTERS = 26;
    private static final int MOST_TYPED = 80;
    private static final int MOST_DATA_TEXT = 40;
    private static final int MOST_ITEMS = 8;
    private static final int MOST_PUT_OUT = 300;
    private static final int MOST_OPEN = 12;
    private static final int MOST_PARAMETERS = 3;
    private static final int MOST_STEPS = 2000;
    private static final int STEPS_AT_FIRST = 1000;
    private static final int CONTEXTS = 8;

    // The rows below are longer than what templates of 80 characters with 12
    // opened bodies within one another can need; what would go beyond is DEPTH.
    private static final int MOST_FRAMES = 200;
    private static final int MOST_VARIABLES = 320;
    private static final int MOST_SLOTS = 40;
    // No text of 80 characters nests deeper than this.
    private static final int MOST_NESTED = 90;
    // Far above the steps of a rendering with the ends of bodies and the macros between them.
    private static final int MOST_TURNS = 1000000;

    // The kinds of values, as bits, for a variable may have several of them when it is checked.
    private static final int IS_NOTHING = 1, IS_NUMBER = 2, IS_TEXT = 4, IS_LIST = 8, IS_ANY = 15;
    // Beside the kinds of an expression: something in it may get a wrong kind.
    private static final int MAY_FAIL = 16;

    // Kinds of expressions that have no sign of their own; the others go by their sign.
    private static final int NUMERAL = 1, QUOTE = 2, VARIABLE = 3, ITEM = 4;
    // Kinds of nodes that have no sign of their own; the others go by their sign.
    private static final int LITERAL = 1, NAMED = 2;
    // Kinds of frames that no tag has for itself.
    private static final int ROOT = 1, PLAIN = 2;

    // Which tags may end a body.
    private static final int BY_ITS_END = 1, BY_ELSE = 2;

    private static final char[] NO_CHARACTERS = {};

    private final char[] typed = new char[MOST_TYPED];
    private int typedCount;
    private final int[] shapes = new int[LETTERS];
    private final Renderer renderer = new Renderer();

    public TemplateQuarry() {
        for (int i = 0; i < LETTERS; i++) {
            shapes[i] = IS_ANY;
        }
    }

    // ---- texts, templates, messages

    public int type(char character) throws IllegalArgumentException, IllegalStateException {
        if (character < 32 || character > 126) {
            throw new IllegalArgumentException();
        }
        if (typedCount >= MOST_TYPED) {
            throw new IllegalStateException();
        }
        typed[typedCount] = character;
        typedCount++;
        return typedCount;
    }

    public int wipe() {
        int had = typedCount;
        typedCount = 0;
        return had;
    }

    public int fault() {
        Reader reader = new Reader(typed, typedCount, 0);
        reader.readBody(0, NONE, 0);
        return reader.faultAt;
    }

    public int template(int template) throws IndexOutOfBoundsException, IllegalArgumentException {
        if (template < 0 || template >= DIGITS) {
            throw new IndexOutOfBoundsException();
        }
        Reader reader = new Reader(typed, typedCount, template);
        Node body = reader.readBody(0, NONE, 0);
        if (reader.faultAt != NONE) {
            throw new IllegalArgumentException();
        }
        reader.result.body = body;
        renderer.templates[template] = reader.result;
        renderer.forgetFragments();
        typedCount = 0;
        return reader.result.tags;
    }

    public int message(int message, int form) throws IndexOutOfBoundsException, IllegalArgumentException {
        if (message < 0 || message >= DIGITS) {
            throw new IndexOutOfBoundsException();
        }
        if (form < 0 || form > 1) {
            throw new IllegalArgumentException();
        }
        int places = 0;
        for (int i = 0; i < typedCount; i++) {
            if (typed[i] == '#') {
                places++;
            }
        }
        renderer.forms[2 * message + form].setText(copyOf(typed, 0, typedCount), typedCount, true);
        renderer.forgetFragments();
        typedCount = 0;
        return places;
    }

    // ---- data

    public void number(char name, int value) throws IllegalArgumentException {
        if (!isLetter(name)) {
            throw new IllegalArgumentException();
        }
        Value number = new Value();
        number.setNumber(value);
        renderer.stack.data[name - 'a'] = number;
    }

    public int text(char name) throws IllegalArgumentException {
        if (!isLetter(name)) {
            throw new IllegalArgumentException();
        }
        Value value = takeTyped();
        renderer.stack.data[name - 'a'] = value;
        return value.length;
    }

    public void list(char name) throws IllegalArgumentException {
        if (!isLetter(name)) {
            throw new IllegalArgumentException();
        }
        Value value = new Value();
        value.setItems(new Value[0]);
        renderer.stack.data[name - 'a'] = value;
    }

    public int add(char name, int value) throws IllegalArgumentException, IllegalStateException {
        if (!isLetter(name)) {
            throw new IllegalArgumentException();
        }
        if (!hasRoom(name - 'a')) {
            throw new IllegalStateException();
        }
        Value number = new Value();
        number.setNumber(value);
        return append(name - 'a', number);
    }

    public int addText(char name) throws IllegalArgumentException, IllegalStateException {
        if (!isLetter(name)) {
            throw new IllegalArgumentException();
        }
        if (!hasRoom(name - 'a')) {
            throw new IllegalStateException();
        }
        return append(name - 'a', takeTyped());
    }

    public boolean clear(char name) throws IllegalArgumentException {
        if (!isLetter(name)) {
            throw new IllegalArgumentException();
        }
        boolean wasAnything = renderer.stack.data[name - 'a'].kind != IS_NOTHING;
        renderer.stack.data[name - 'a'] = new Value();
        return wasAnything;
    }

    private Value takeTyped() {
        int length = Math.min(typedCount, MOST_DATA_TEXT);
        Value value = new Value();
        value.setText(copyOf(typed, 0, length), length, false);
        typedCount = 0;
        return value;
    }

    private boolean hasRoom(int letter) {
        Value value = renderer.stack.data[letter];
        return value.kind == IS_LIST && value.items.length < MOST_ITEMS;
    }

    /** Makes the list anew, for a kept fragment may still compare with the old one. */
    private int append(int letter, Value item) {
        Value[] old = renderer.stack.data[letter].items;
        Value[] items = new Value[old.length + 1];
        for (int i = 0; i < old.length; i++) {
            items[i] = old[i];
        }
        items[old.length] = item;
        Value value = new Value();
        value.setItems(items);
        renderer.stack.data[letter] = value;
        return items.length;
    }

    // ---- rendering

    public int budget(int steps) throws IllegalArgumentException {
        if (steps < 1 || steps > MOST_STEPS) {
            throw new IllegalArgumentException();
        }
        int before = renderer.mostSteps;
        renderer.mostSteps = steps;
        return before;
    }

    public int render(int template) throws IndexOutOfBoundsException {
        if (template < 0 || template >= DIGITS) {
            throw new IndexOutOfBoundsException();
        }
        return renderer.run(template);
    }

    public int spent() {
        return renderer.steps;
    }

    public int hits() {
        return renderer.hitCount;
    }

    public int kept() {
        int count = 0;
        for (int i = 0; i < DIGITS; i++) {
            if (renderer.fragments[i].tag != null) {
                count++;
            }
        }
        return count;
    }

    // ---- the output

    public char out(int place) throws IndexOutOfBoundsException {
        if (place < 0 || place >= renderer.output.length) {
            throw new IndexOutOfBoundsException();
        }
        return signOf(renderer.output.cells[place]);
    }

    public char outAnew(int place) throws IndexOutOfBoundsException {
        if (place < 0 || place >= renderer.output.length) {
            throw new IndexOutOfBoundsException();
        }
        int context = TEXT;
        for (int i = 0; i < place; i++) {
            context = lead(context, signOf(renderer.output.cells[i]));
        }
        int cell = renderer.output.cells[place];
        if (isEscaped(cell)) {
            return escaped(originOf(cell), context, partOf(cell));
        }
        return originOf(cell);
    }

    public int source(int place) throws IndexOutOfBoundsException {
        if (place < 0 || place >= renderer.output.length) {
            throw new IndexOutOfBoundsException();
        }
        return sourceOf(renderer.output.cells[place]);
    }

    public int context(int place) throws IndexOutOfBoundsException {
        if (place < 0 || place > renderer.output.length) {
            throw new IndexOutOfBoundsException();
        }
        return renderer.output.contexts[place];
    }

    public int alike() {
        return renderer.output.alikeAhead();
    }

    public int alikeAtEnd() {
        return renderer.output.alikeBehind();
    }

    // ---- looking ahead

    public int mayEnd(int template) throws IndexOutOfBoundsException {
        if (template < 0 || template >= DIGITS) {
            throw new IndexOutOfBoundsException();
        }
        Template whole = renderer.templates[template];
        return Foresight.through(whole.body, 1 << TEXT, whole.letters, 0);
    }

    public int shape(char name, int kinds) throws IllegalArgumentException {
        if (!isLetter(name) || kinds < 1 || kinds > IS_ANY) {
            throw new IllegalArgumentException();
        }
        int before = shapes[name - 'a'];
        shapes[name - 'a'] = kinds;
        return before;
    }

    public int check(int template) throws IndexOutOfBoundsException {
        if (template < 0 || template >= DIGITS) {
            throw new IndexOutOfBoundsException();
        }
        return Foresight.firstFailing(renderer.templates[template].body, shapes, 0);
    }

    // ---- characters

    private static boolean isLetter(char c) {
        return c >= 'a' && c <= 'z';
    }

    private static boolean isDigit(char c) {
        return c >= '0' && c <= '9';
    }

    private static char[] copyOf(char[] row, int from, int to) {
        if (from < 0 || to < from || to > row.length) {
            return NO_CHARACTERS;
        }
        char[] copy = new char[to - from];
        System.arraycopy(row, from, copy, 0, copy.length);
        return copy;
    }

    /** Writes a number's digits from a place on; returns the place behind them. */
    private static int writeDigits(int number, char[] row, int from) {
        long rest = number < 0 ? -(long) number : number;
        int length = number < 0 ? 2 : 1;
        for (long power = 10; power <= rest; power *= 10) {
            length++;
        }
        if (from < 0 || from > row.length - length) {
            return from;
        }
        if (number < 0) {
            row[from] = '-';
        }
        int first = number < 0 ? from + 1 : from;
        for (int i = from + length - 1; i >= first; i--) {
            row[i] = (char) ('0' + rest % 10);
            rest /= 10;
        }
        return from + length;
    }

    // ---- contexts

    private static int lead(int context, char c) {
        switch (context) {
            case TEXT:
                return c == '<' ? OPENED : TEXT;
            case OPENED:
                return c == '>' ? TEXT : c == 's' ? SCRIPT_TAG : TAG;
            case TAG:
                return c == '>' ? TEXT : c == '"' ? QUOTED : TAG;
            case QUOTED:
                return c == '"' ? TAG : QUOTED;
            case SCRIPT_TAG:
                return c == '>' ? SCRIPT : c == '"' ? SCRIPT_QUOTED : SCRIPT_TAG;
            case SCRIPT_QUOTED:
                return c == '"' ? SCRIPT_TAG : SCRIPT_QUOTED;
            case SCRIPT:
                return c == '\'' ? STRING : c == '<' ? OPENED : SCRIPT;
            default:
                return c == '\'' ? SCRIPT : STRING;
        }
    }

    /** How many characters one of a text that is not safe is put out as. */
    private static int escapedLength(char c, int context) {
        switch (context) {
            case TEXT:
            case QUOTED:
            case SCRIPT_QUOTED:
                return entityOf(c) == 0 ? 1 : 3;
            case STRING:
                return 1;
            case OPENED:
                return 0;
            default:
                return isDigit(c) || isLetter(c) || c >= 'A' && c <= 'Z' ? 1 : 0;
        }
    }

    private static char escaped(char c, int context, int part) {
        if (context == STRING) {
            return c == '\'' || c == '\\' || c == '<' ? '_' : c;
        }
        char entity = context == TEXT || context == QUOTED || context == SCRIPT_QUOTED ? entityOf(c) : 0;
        return entity == 0 ? c : part == 0 ? '&' : part == 1 ? entity : ';';
    }

    private static char entityOf(char c) {
        switch (c) {
            case '<':
                return 'l';
            case '>':
                return 'g';
            case '&':
                return 'a';
            case '"':
                return 'q';
            default:
                return 0;
        }
    }

    // ---- cells: a character of the output with all that is known of it, in one int

    private static int literalCell(char c, int source) {
        return c | c << 7 | 1 << 14 | source << 18;
    }

    private static int safeCell(char c, int source) {
        return c | c << 7 | source << 18;
    }

    private static int escapedCell(char c, char origin, int part, int source) {
        return c | origin << 7 | 1 << 15 | part << 16 | source << 18;
    }

    private static char signOf(int cell) {
        return (char) (cell & 127);
    }

    private static char originOf(int cell) {
        return (char) (cell >> 7 & 127);
    }

    private static boolean isLiteralBlank(int cell) {
        return (cell >> 14 & 1) != 0 && signOf(cell) == ' ';
    }

    private static boolean isEscaped(int cell) {
        return (cell >> 15 & 1) != 0;
    }

    private static int partOf(int cell) {
        return cell >> 16 & 3;
    }

    private static int sourceOf(int cell) {
        return cell >> 18;
    }

    /** A value, or a place for one: a slot of an expression, a variable, what a fragment had read. */
    private static final class Value {
        int kind = IS_NOTHING;
        int number;
        boolean safe;
        char[] characters = NO_CHARACTERS;
        int length;
        Value[] items = new Value[0];
        int letter = NONE;
        private char[] own = NO_CHARACTERS;

        void setNothing() {
            kind = IS_NOTHING;
        }

        void setNumber(int value) {
            kind = IS_NUMBER;
            number = value;
        }

        void setText(char[] row, int count, boolean isSafe) {
            kind = IS_TEXT;
            characters = row;
            length = Math.max(0, Math.min(count, row.length));
            safe = isSafe;
        }

        void setItems(Value[] row) {
            kind = IS_LIST;
            items = row;
        }

        /** Is the other value, as long as that one keeps its characters. */
        void refer(Value other) {
            kind = other.kind;
            number = other.number;
            safe = other.safe;
            characters = other.characters;
            length = other.length;
            items = other.items;
        }

        /** Is the other value, whatever becomes of that one. */
        void keep(Value other) {
            refer(other);
            if (kind == IS_TEXT) {
                char[] row = ownRow();
                int count = Math.min(length, row.length);
                System.arraycopy(characters, 0, row, 0, count);
                setText(row, count, safe);
            }
        }

        /** Made when it is needed first, and used again ever after. */
        char[] ownRow() {
            if (own.length == 0) {
                own = new char[MOST_PUT_OUT];
            }
            return own;
        }

        boolean isTrue() {
            switch (kind) {
                case IS_NUMBER:
                    return number != 0;
                case IS_TEXT:
                    return length != 0;
                case IS_LIST:
                    return items.length != 0;
                default:
                    return false;
            }
        }

        boolean isLike(Value other) {
            if (kind != IS_LIST || other.kind != IS_LIST) {
                return isPlainlyLike(other);
            }
            if (items.length != other.items.length) {
                return false;
            }
            for (int i = 0; i < items.length; i++) {
                if (!items[i].isPlainlyLike(other.items[i])) {
                    return false;
                }
            }
            return true;
        }

        private boolean isPlainlyLike(Value other) {
            if (kind != other.kind) {
                return false;
            }
            if (kind != IS_TEXT) {
                return kind == IS_NOTHING || number == other.number;
            }
            boolean same = length == other.length;
            for (int i = 0; same && i < length; i++) {
                same = characters[i] == other.characters[i];
            }
            return same;
        }

        boolean isSafeLike(Value other) {
            return kind != IS_TEXT || safe == other.safe;
        }

        /** Of two texts: one that the other goes on from is less than that. */
        boolean isTextBefore(Value other) {
            int place = firstDifference(other);
            if (place >= other.length) {
                return false;
            }
            return place >= length || characters[place] < other.characters[place];
        }

        private int firstDifference(Value other) {
            int most = Math.min(length, other.length);
            for (int i = 0; i < most; i++) {
                if (characters[i] != other.characters[i]) {
                    return i;
                }
            }
            return most;
        }
    }

    /** An expression as a tree: a filter has what it filters at its left. */
    private static final class Expression {
        final int kind;
        /** A numeral's number, or a variable's letter. */
        int number;
        int digit;
        char[] characters = NO_CHARACTERS;
        Expression left;
        Expression right;

        Expression(int kind) {
            this.kind = kind;
        }
    }

    /** A literal, a tag, or a parameter or argument of one. */
    private static final class Node {
        final int kind;
        final int home;
        final int place;
        /** What the tag is told by; with an up the innermost block that it stands in. */
        int digit = NONE;
        int letter = NONE;
        char character;
        Expression expression;
        Node named;
        Node body;
        Node second;
        Node next;

        Node(int kind, int home, int place) {
            this.kind = kind;
            this.home = home;
            this.place = place;
        }

        int origin() {
            return 100 * home + place;
        }
    }

    /** A template as a tree, and what is asked of it by digits. */
    private static final class Template {
        Node body;
        int parent = NONE;
        int tags;
        /** Which letters some set sets, as bits. */
        int letters;
        final Node[] blocks = new Node[DIGITS];
        final Node[] macros = new Node[DIGITS];
    }

    /**
     * Reads a text into a template, by one character ahead: so the first
     * character that it has no way for is the fault.
     */
    private static final class Reader {
        private final char[] signs;
        private final int length;
        private final int home;
        final Template result = new Template();
        private int at;
        int faultAt = NONE;

        Reader(char[] signs, int length, int home) {
            this.signs = signs;
            this.length = length;
            this.home = home;
        }

        /** 0 behind the end. */
        private char sign(int place) {
            return place >= 0 && place < length && place < signs.length ? signs[place] : 0;
        }

        private boolean failed() {
            return faultAt != NONE;
        }

        private void reject() {
            if (faultAt == NONE) {
                faultAt = at;
            }
        }

        private void pass(char c) {
            if (!failed() && sign(at) == c) {
                at++;
            } else {
                reject();
            }
        }

        private int readDigit() {
            char c = sign(at);
            if (failed() || !isDigit(c)) {
                reject();
                return NONE;
            }
            at++;
            return c - '0';
        }

        private int readLetter() {
            char c = sign(at);
            if (failed() || !isLetter(c)) {
                reject();
                return NONE;
            }
            at++;
            return c - 'a';
        }

        private static boolean ends(char c, int ends) {
            return c == ';' && (ends & BY_ITS_END) != 0 || c == ':' && (ends & BY_ELSE) != 0;
        }

        private void readParent() {
            at = 2;
            result.parent = readDigit();
            pass('}');
            result.tags++;
        }

        /** Stops ahead of the tag that ends the body; the whole text is a body that none ends. */
        private Node readBody(int ends, int block, int depth) {
            Node first = null;
            Node last = null;
            if (at == 0 && sign(0) == '{' && sign(1) == '<') {
                readParent();
            }
            for (int turn = 0; turn <= length && !failed(); turn++) {
                if (at >= length) {
                    if (ends != 0) {
                        reject();
                    }
                    return first;
                }
                if (sign(at) == '{' && ends(sign(at + 1), ends)) {
                    return first;
                }
                Node read = sign(at) == '{' ? readTag(block, depth) : readLiteral();
                if (last == null) {
                    first = read;
                } else {
                    last.next = read;
                }
                last = read;
            }
            return first;
        }

        private Node readLiteral() {
            Node literal = new Node(LITERAL, home, at);
            literal.character = sign(at);
            if (literal.character == '}') {
                reject();
            }
            at++;
            return literal;
        }

        private Node readTag(int block, int depth) {
            int place = at;
            at++;
            Node tag = new Node(sign(at), home, place);
            if (!isTag(sign(at)) || depth >= MOST_NESTED) {
                reject();
                return tag;
            }
            at++;
            result.tags++;
            readHead(tag, block);
            pass('}');
            if (!failed()) {
                note(tag);
                readBodies(tag, tag.kind == '#' ? tag.digit : block, depth + 1);
            }
            return tag;
        }

        private static boolean isTag(char c) {
            switch (c) {
                case '=': case '?': case '*': case '+': case '#': case '^': case '@': case '$':
                case '!': case '&': case '~': case '%': case '-': case 't': case 'k':
                    return true;
                default:
                    return false;
            }
        }

        private void readHead(Node tag, int block) {
            switch (tag.kind) {
                case '=':
                case '?':
                    tag.expression = readExpression(0);
                    break;
                case '*':
                case '%':
                    tag.letter = readLetter();
                    tag.expression = readExpression(0);
                    break;
                case '#':
                case '@':
                case 'k':
                    tag.digit = readDigit();
                    break;
                case 't':
                    tag.digit = readDigit();
                    tag.expression = readExpression(0);
                    break;
                case '$':
                    tag.digit = readDigit();
                    readParameters(tag);
                    break;
                case '!':
                case '&':
                    tag.digit = readDigit();
                    readArguments(tag);
                    break;
                case '^':
                    tag.digit = block;
                    break;
                default:
                    break;
            }
        }

        /** Ahead of its bodies, so that the first one in the text stays the first one. */
        private void note(Node tag) {
            if (tag.kind == '%' && tag.letter >= 0) {
                result.letters |= 1 << tag.letter;
            }
            if (tag.digit < 0 || tag.digit >= DIGITS) {
                return;
            }
            if (tag.kind == '#' && result.blocks[tag.digit] == null) {
                result.blocks[tag.digit] = tag;
            }
            if (tag.kind == '$' && result.macros[tag.digit] == null) {
                result.macros[tag.digit] = tag;
            }
        }

        private void readBodies(Node tag, int block, int depth) {
            switch (tag.kind) {
                case '?':
                case '*':
                    tag.body = readBody(BY_ITS_END | BY_ELSE, block, depth);
                    if (leave() == ':') {
                        tag.second = readBody(BY_ITS_END, block, depth);
                        leave();
                    }
                    break;
                case '+':
                    tag.body = readBody(BY_ELSE, block, depth);
                    leave();
                    tag.second = readBody(BY_ITS_END, block, depth);
                    leave();
                    break;
                case '#':
                case '$':
                case '&':
                case 'k':
                    tag.body = readBody(BY_ITS_END, block, depth);
                    leave();
                    break;
                default:
                    break;
            }
        }

        /** Goes over the tag that ended a body, and tells which one it was. */
        private char leave() {
            if (failed()) {
                return 0;
            }
            char c = sign(at + 1);
            at += 2;
            pass('}');
            return c;
        }

        private void readParameters(Node macro) {
            int seen = 0;
            Node last = null;
            for (int i = 0; i < MOST_PARAMETERS && !failed() && isLetter(sign(at)); i++) {
                int letter = sign(at) - 'a';
                if ((seen >> letter & 1) != 0) {
                    reject();
                    return;
                }
                seen |= 1 << letter;
                Node parameter = new Node(NAMED, home, at);
                parameter.letter = letter;
                at++;
                if (sign(at) == '=') {
                    at++;
                    parameter.expression = readPrimary(0);
                }
                if (last == null) {
                    macro.named = parameter;
                } else {
                    last.next = parameter;
                }
                last = parameter;
            }
        }

        private void readArguments(Node call) {
            if (failed() || sign(at) == '}') {
                return;
            }
            Node last = null;
            for (int i = 0; i < MOST_PARAMETERS && !failed(); i++) {
                Node argument = new Node(NAMED, home, at);
                if (isLetter(sign(at)) && sign(at + 1) == ':') {
                    argument.letter = sign(at) - 'a';
                    at += 2;
                }
                argument.expression = readExpression(0);
                if (last == null) {
                    call.named = argument;
                } else {
                    last.next = argument;
                }
                last = argument;
                if (sign(at) != ',' || i == MOST_PARAMETERS - 1) {
                    return;
                }
                at++;
            }
        }

        private Expression readExpression(int depth) {
            Expression whole = readPrimary(depth);
            for (int turn = 0; turn < length && !failed() && sign(at) == '|'; turn++) {
                at++;
                char c = sign(at);
                Expression filter = new Expression(c);
                filter.left = whole;
                if (c != 'u' && c != 'l' && c != 'r' && c != 'j' && c != 'n' && c != 'd') {
                    reject();
                    return whole;
                }
                at++;
                if (c == 'd') {
                    filter.right = readPrimary(depth);
                }
                whole = filter;
            }
            return whole;
        }

        private Expression readPrimary(int depth) {
            char c = sign(at);
            if (failed() || depth >= MOST_NESTED) {
                reject();
                return null;
            }
            if (isDigit(c)) {
                return readNumeral();
            }
            if (isLetter(c)) {
                return readVariable();
            }
            if (c == '\'') {
                return readQuote();
            }
            if (c != '!' && c != '(') {
                reject();
                return null;
            }
            at++;
            Expression first = readExpression(depth + 1);
            Expression whole = new Expression(c == '!' ? c : readOperator());
            whole.left = first;
            if (c == '(' && !failed()) {
                whole.right = readExpression(depth + 1);
                pass(')');
            }
            return whole;
        }

        private char readOperator() {
            char c = sign(at);
            switch (c) {
                case '+': case '-': case '*': case '<': case '=': case '&': case '?':
                    at++;
                    return c;
                default:
                    reject();
                    return 0;
            }
        }

        private Expression readNumeral() {
            Expression numeral = new Expression(NUMERAL);
            for (int i = 0; i < 4 && isDigit(sign(at)); i++) {
                numeral.number = 10 * numeral.number + sign(at) - '0';
                at++;
            }
            return numeral;
        }

        private Expression readVariable() {
            boolean isItem = sign(at + 1) == '.';
            Expression variable = new Expression(isItem ? ITEM : VARIABLE);
            variable.number = sign(at) - 'a';
            at++;
            if (isItem) {
                at++;
                variable.digit = readDigit();
            }
            return variable;
        }

        private Expression readQuote() {
            Expression quote = new Expression(QUOTE);
            at++;
            int from = at;
            for (int i = from; i < length && isQuotable(sign(at)); i++) {
                at++;
            }
            quote.characters = copyOf(signs, from, at);
            if (sign(at) == '\'') {
                at++;
            } else {
                reject();
            }
            return quote;
        }

        private static boolean isQuotable(char c) {
            return c != '\'' && c != '{' && c != '}' && c != 0;
        }
    }

    /** The output, and that of the rendering before it. */
    private static final class Output {
        int[] cells = new int[MOST_PUT_OUT];
        int length;
        private int[] before = new int[MOST_PUT_OUT];
        private int lengthBefore;
        /** At each place the context ahead of it, also behind the last one. */
        final int[] contexts = new int[MOST_PUT_OUT + 1];
        boolean waits;
        private final char[] digits = new char[12];

        void begin() {
            int[] free = before;
            before = cells;
            lengthBefore = length;
            cells = free;
            empty();
        }

        void empty() {
            length = 0;
            waits = false;
        }

        private int put(int cell) {
            if (length >= MOST_PUT_OUT) {
                return FULL;
            }
            cells[length] = cell;
            contexts[length + 1] = lead(contexts[length], signOf(cell));
            length++;
            waits = false;
            return 0;
        }

        int putLiteral(char c, int source) {
            return waits && c == ' ' ? 0 : put(literalCell(c, source));
        }

        int putValue(Value value, int source) {
            switch (value.kind) {
                case IS_NUMBER:
                    return putSafe(digits, writeDigits(value.number, digits, 0), source);
                case IS_TEXT:
                    return value.safe ? putSafe(value.characters, value.length, source) : putEscaped(value, source);
                case IS_NOTHING:
                    return NOTHING;
                default:
                    return TYPE;
            }
        }

        private int putSafe(char[] row, int count, int source) {
            for (int i = 0; i < count && i < row.length; i++) {
                int failure = put(safeCell(row[i], source));
                if (failure != 0) {
                    return failure;
                }
            }
            return 0;
        }

        private int putEscaped(Value value, int source) {
            for (int i = 0; i < value.length; i++) {
                char c = value.characters[i];
                int context = contexts[length];
                int parts = escapedLength(c, context);
                for (int part = 0; part < parts; part++) {
                    int failure = put(escapedCell(escaped(c, context, part), c, part, source));
                    if (failure != 0) {
                        return failure;
                    }
                }
            }
            return 0;
        }

        int putForm(Value form, int number, int source) {
            int count = writeDigits(number, digits, 0);
            for (int i = 0; i < form.length; i++) {
                char c = form.characters[i];
                int failure = c == '#' ? putSafe(digits, count, source) : put(safeCell(c, source));
                if (failure != 0) {
                    return failure;
                }
            }
            return 0;
        }

        int putCells(int[] row, int count) {
            for (int i = 0; i < count && i < row.length; i++) {
                int failure = put(row[i]);
                if (failure != 0) {
                    return failure;
                }
            }
            return 0;
        }

        void trim() {
            length -= literalBlanks();
            waits = true;
        }

        /** How many blanks of literals are at the end. */
        private int literalBlanks() {
            int count = 0;
            for (int i = length - 1; i >= 0 && isLiteralBlank(cells[i]); i--) {
                count++;
            }
            return count;
        }

        void mark(Frame frame) {
            frame.lengthAhead = length;
            frame.waitsAhead = waits;
        }

        /** Only blanks of literals at the end can be lost by a trim, so no others are put by. */
        void markToRestore(Frame frame) {
            mark(frame);
            int count = literalBlanks();
            frame.blankCount = count;
            System.arraycopy(cells, length - count, frame.rowOfBlanks(), 0, count);
        }

        void restore(Frame frame) {
            length = frame.lengthAhead - frame.blankCount;
            putCells(frame.rowOfBlanks(), frame.blankCount);
            waits = frame.waitsAhead;
        }

        int alikeAhead() {
            int most = Math.min(length, lengthBefore);
            for (int i = 0; i < most; i++) {
                if (signOf(cells[i]) != signOf(before[i])) {
                    return i;
                }
            }
            return most;
        }

        int alikeBehind() {
            int most = Math.min(length, lengthBefore) - alikeAhead();
            for (int i = 0; i < most; i++) {
                if (signOf(cells[length - 1 - i]) != signOf(before[lengthBefore - 1 - i])) {
                    return i;
                }
            }
            return most;
        }
    }

    /** What a kept fragment put out, and what must be as then for it to be put out again. */
    private static final class Fragment {
        /** Null as long as nothing is kept. */
        Node tag;
        private final int[] line = new int[DIGITS];
        private int lineLength;
        private int context;
        private boolean waits;
        final int[] cells = new int[MOST_PUT_OUT];
        int length;
        /** Which letters were looked for from where the tag stands, as bits, and from the data. */
        int scopeReads;
        int dataReads;
        private final Value[] scopeValues = new Value[LETTERS];
        private final Value[] dataValues = new Value[LETTERS];

        void keep(Frame frame, Frame lineFrame, Output output, Stack stack) {
            tag = frame.tag;
            lineLength = lineFrame.lineLength;
            System.arraycopy(lineFrame.line, 0, line, 0, line.length);
            context = output.contexts[frame.lengthAhead];
            waits = frame.waitsAhead;
            length = Math.max(0, output.length - frame.lengthAhead);
            System.arraycopy(output.cells, output.length - length, cells, 0, length);
            scopeReads = frame.scopeReads;
            dataReads = frame.dataReads;
            keepValues(scopeValues, scopeReads, stack, frame.behind);
            keepValues(dataValues, dataReads, stack, NONE);
        }

        private static void keepValues(Value[] values, int reads, Stack stack, int scope) {
            for (int letter = 0; letter < LETTERS; letter++) {
                if ((reads >> letter & 1) != 0) {
                    if (values[letter] == null) {
                        values[letter] = new Value();
                    }
                    values[letter].keep(stack.valueFrom(scope, letter));
                }
            }
        }

        boolean fits(Node met, Frame lineFrame, Output output, Stack stack, int scope) {
            return tag == met && hasLine(lineFrame)
                    && context == output.contexts[output.length] && waits == output.waits
                    && hasValues(scopeValues, scopeReads, stack, scope)
                    && hasValues(dataValues, dataReads, stack, NONE);
        }

        private boolean hasLine(Frame frame) {
            if (lineLength != frame.lineLength) {
                return false;
            }
            for (int i = 0; i < lineLength && i < line.length; i++) {
                if (line[i] != frame.line[i]) {
                    return false;
                }
            }
            return true;
        }

        private static boolean hasValues(Value[] values, int reads, Stack stack, int scope) {
            for (int letter = 0; letter < LETTERS; letter++) {
                Value value = values[letter];
                if ((reads >> letter & 1) != 0 && value != null) {
                    Value now = stack.valueFrom(scope, letter);
                    if (!value.isLike(now) || !value.isSafeLike(now)) {
                        return false;
                    }
                }
            }
            return true;
        }
    }

    /** A body that is being rendered. Frames are named by their places in the stack. */
    private static final class Frame {
        int kind;
        Node tag;
        /** What is met next; null at the end of the body. */
        Node next;
        /** The frame with the innermost scope, perhaps this one. */
        int scope;
        /** With a scope: the frame with the next one to look in, NONE if that is the data. */
        int behind;
        int base;
        int count;
        /** The frame that has the line. */
        int lineAt;
        final int[] line = new int[DIGITS];
        int lineLength;
        /** The call whose body is that of the caller, NONE if there is none. */
        int callAt;
        /** The innermost kept fragment that is open, NONE if there is none. */
        int keepAt;
        int opened;
        final Value list = new Value();
        int round;
        /** The output ahead of a try or of a kept fragment. */
        int lengthAhead;
        boolean waitsAhead;
        int blankCount;
        private int[] blanks;
        int scopeReads;
        int dataReads;
        boolean keepable;

        int[] rowOfBlanks() {
            if (blanks == null) {
                blanks = new int[MOST_PUT_OUT];
            }
            return blanks;
        }
    }

    /** The bodies that are open within one another, with their scopes, and the data behind these. */
    private static final class Stack {
        final Value[] data = new Value[LETTERS];
        /** The variables of all scopes, those of each one together, the innermost one last. */
        final Value[] variables = new Value[MOST_VARIABLES];
        int filled;
        final Frame[] frames = new Frame[MOST_FRAMES];
        int top = NONE;

        Stack() {
            for (int i = 0; i < LETTERS; i++) {
                data[i] = new Value();
            }
            for (int i = 0; i < MOST_VARIABLES; i++) {
                variables[i] = new Value();
            }
            for (int i = 0; i < MOST_FRAMES; i++) {
                frames[i] = new Frame();
            }
        }

        void begin() {
            Frame root = frames[0];
            root.kind = ROOT;
            root.next = null;
            root.scope = 0;
            root.behind = NONE;
            root.base = 0;
            root.count = 0;
            root.lineAt = 0;
            root.callAt = NONE;
            root.keepAt = NONE;
            root.opened = 0;
            top = 0;
            filled = 0;
        }

        /** Null if there is no room. */
        Frame push(int kind, Node tag, Node body) {
            if (top < 0 || top >= MOST_FRAMES - 1) {
                return null;
            }
            Frame below = frames[top];
            Frame frame = frames[top + 1];
            frame.scope = below.scope;
            frame.lineAt = below.lineAt;
            frame.callAt = below.callAt;
            frame.keepAt = below.keepAt;
            frame.opened = below.opened;
            frame.kind = kind;
            frame.tag = tag;
            frame.next = body;
            top++;
            return frame;
        }

        Frame pushScope(int kind, Node tag, Node body) {
            Frame frame = push(kind, tag, body);
            if (frame != null) {
                frame.behind = frame.scope;
                frame.scope = top;
                frame.base = filled;
                frame.count = 0;
            }
            return frame;
        }

        /** Null if too much is open. */
        Frame open(Node tag, Node body) {
            if (top < 0 || frames[top].opened >= MOST_OPEN) {
                return null;
            }
            Frame frame = pushScope(tag.kind, tag, body);
            if (frame != null) {
                frame.opened++;
            }
            return frame;
        }

        /** Takes off a frame and all above it. */
        void cut(int at) {
            for (int i = top; i >= at && i >= 0; i--) {
                if (frames[i].scope == i) {
                    filled = frames[i].base;
                }
            }
            top = at - 1;
        }

        int scope() {
            return top >= 0 ? frames[top].scope : NONE;
        }

        /** Sets a variable of the innermost scope; false if there is no room. */
        boolean set(int letter, Value value) {
            if (top < 0) {
                return false;
            }
            Frame frame = frames[frames[top].scope];
            int place = placeIn(frame, letter);
            if (place == NONE) {
                if (filled >= MOST_VARIABLES) {
                    return false;
                }
                place = filled;
                variables[place].letter = letter;
                filled++;
                frame.count++;
            }
            variables[place].keep(value);
            return true;
        }

        private int placeIn(Frame frame, int letter) {
            int end = Math.min(frame.base + frame.count, MOST_VARIABLES);
            for (int i = frame.base; i < end; i++) {
                if (variables[i].letter == letter) {
                    return i;
                }
            }
            return NONE;
        }

        /** The place of a variable in the innermost scope, from one on, that has it; NONE if that is the data. */
        private int placeFrom(int scope, int letter) {
            int at = scope;
            for (int i = 0; i < MOST_FRAMES && at >= 0; i++) {
                Frame frame = frames[at];
                int end = Math.min(frame.base + frame.count, MOST_VARIABLES);
                for (int place = frame.base; place < end; place++) {
                    if (variables[place].letter == letter) {
                        return place;
                    }
                }
                at = frame.behind;
            }
            return NONE;
        }

        Value valueFrom(int scope, int letter) {
            int place = placeFrom(scope, letter);
            return place == NONE ? data[letter] : variables[place];
        }

        /** As valueFrom, and tells it to the kept fragments that are open. */
        Value read(int scope, int letter) {
            int place = placeFrom(scope, letter);
            if (top >= 0 && frames[top].keepAt != NONE) {
                noteRead(scope, place, letter);
            }
            return place == NONE ? data[letter] : variables[place];
        }

        /**
         * A fragment has read what stands below its own variables: looked for
         * from where its tag stands or, from within a macro, in the data alone.
         */
        private void noteRead(int scope, int place, int letter) {
            int keepAt = frames[top].keepAt;
            for (int i = 0; i < MOST_FRAMES && keepAt > 0 && place < frames[keepAt].base; i++) {
                int at = scope;
                for (int j = 0; j < MOST_FRAMES && at >= keepAt; j++) {
                    at = frames[at].behind;
                }
                if (at >= 0) {
                    frames[keepAt].scopeReads |= 1 << letter;
                } else {
                    frames[keepAt].dataReads |= 1 << letter;
                }
                keepAt = frames[keepAt - 1].keepAt;
            }
        }

        /** Tells the kept fragments that are open that they can't be kept. */
        void spoilKeeping() {
            int keepAt = top >= 0 ? frames[top].keepAt : NONE;
            for (int i = 0; i < MOST_FRAMES && keepAt > 0; i++) {
                frames[keepAt].keepable = false;
                keepAt = frames[keepAt - 1].keepAt;
            }
        }
    }

    /** Finds what expressions are, in slots that are used again and again. */
    private static final class Finder {
        final Stack stack = new Stack();
        private final Value[] slots = new Value[MOST_SLOTS];
        private final char[] joined = new char[MOST_ITEMS * (MOST_DATA_TEXT + 1)];

        Finder() {
            for (int i = 0; i < MOST_SLOTS; i++) {
                slots[i] = new Value();
            }
        }

        /** What was found last. */
        Value found() {
            return slots[0];
        }

        /** Returns 0, or why it fails; the first slot is the one that is found last. */
        private int find(Expression whole, int scope, int slot, int depth) {
            if (whole == null || slot >= MOST_SLOTS || depth >= MOST_NESTED) {
                return DEPTH;
            }
            Value value = slots[slot];
            switch (whole.kind) {
                case NUMERAL:
                    value.setNumber(whole.number);
                    return 0;
                case QUOTE:
                    value.setText(whole.characters, whole.characters.length, true);
                    return 0;
                case VARIABLE:
                    value.refer(stack.read(scope, whole.number));
                    return 0;
                case ITEM:
                    return findItem(value, stack.read(scope, whole.number), whole.digit);
                default:
                    return findFromParts(whole, scope, slot, depth);
            }
        }

        private int findFromParts(Expression whole, int scope, int slot, int depth) {
            int failure = find(whole.left, scope, slot, depth + 1);
            Value value = slots[slot];
            if (failure != 0 || isEnough(whole.kind, value)) {
                return failure;
            }
            switch (whole.kind) {
                case 'd':
                case '?':
                    return find(whole.right, scope, slot, depth + 1);
                case '!':
                    value.setNumber(value.isTrue() ? 0 : 1);
                    return 0;
                case 'j':
                    return joinItems(value);
                case 'u':
                case 'l':
                case 'r':
                case 'n':
                    return filter(whole.kind, value);
                default:
                    break;
            }
            failure = find(whole.right, scope, slot + 1, depth + 1);
            return failure != 0 ? failure : operate(whole.kind, value, slots[slot + 1]);
        }

        /** Whether the right one is not needed; the left one is the value then. */
        private static boolean isEnough(int kind, Value left) {
            switch (kind) {
                case 'd':
                    return left.kind != IS_NOTHING;
                case '?':
                    return left.isTrue();
                case '&':
                    if (left.isTrue()) {
                        return false;
                    }
                    left.setNumber(0);
                    return true;
                default:
                    return false;
            }
        }

        private static int findItem(Value value, Value list, int digit) {
            if (list.kind != IS_LIST) {
                return TYPE;
            }
            if (digit < 0 || digit >= list.items.length) {
                return INDEX;
            }
            value.refer(list.items[digit]);
            return 0;
        }

        private static int filter(int kind, Value value) {
            if (kind == 'l' && value.kind == IS_LIST) {
                value.setNumber(value.items.length);
                return 0;
            }
            if (value.kind != IS_TEXT) {
                return TYPE;
            }
            switch (kind) {
                case 'u':
                    raise(value);
                    return 0;
                case 'l':
                    value.setNumber(value.length);
                    return 0;
                case 'r':
                    value.safe = true;
                    return 0;
                default:
                    toNumber(value);
                    return 0;
            }
        }

        private static void raise(Value text) {
            char[] row = text.ownRow();
            for (int i = 0; i < text.length && i < row.length; i++) {
                char c = text.characters[i];
                row[i] = isLetter(c) ? (char) (c - 'a' + 'A') : c;
            }
            text.setText(row, text.length, text.safe);
        }

        private static void toNumber(Value text) {
            int from = text.length > 0 && text.characters[0] == '-' ? 1 : 0;
            int count = text.length - from;
            int number = 0;
            boolean isNumber = count >= 1 && count <= 9;
            for (int i = from; isNumber && i < text.length; i++) {
                char c = text.characters[i];
                isNumber = isDigit(c);
                number = 10 * number + c - '0';
            }
            if (isNumber) {
                text.setNumber(from == 1 ? -number : number);
            } else {
                text.setNothing();
            }
        }

        private int joinItems(Value value) {
            if (value.kind != IS_LIST) {
                return TYPE;
            }
            int length = 0;
            boolean safe = true;
            for (int i = 0; i < value.items.length && i < MOST_ITEMS; i++) {
                Value item = value.items[i];
                if (i > 0) {
                    joined[length] = ',';
                    length++;
                }
                if (item.kind == IS_TEXT) {
                    System.arraycopy(item.characters, 0, joined, length, item.length);
                    length += item.length;
                    safe = safe && item.safe;
                } else {
                    length = writeDigits(item.number, joined, length);
                }
            }
            char[] row = value.ownRow();
            if (length > row.length) {
                return FULL;
            }
            System.arraycopy(joined, 0, row, 0, length);
            value.setText(row, length, safe);
            return 0;
        }

        private static int operate(int kind, Value left, Value right) {
            if (kind == '&') {
                left.setNumber(right.isTrue() ? 1 : 0);
                return 0;
            }
            if (kind == '=') {
                left.setNumber(left.isLike(right) ? 1 : 0);
                return 0;
            }
            if (left.kind == IS_NUMBER && right.kind == IS_NUMBER) {
                return calculate(kind, left, right);
            }
            if (left.kind != IS_TEXT || right.kind != IS_TEXT) {
                return TYPE;
            }
            if (kind == '+') {
                return joinTexts(left, right);
            }
            if (kind != '<') {
                return TYPE;
            }
            left.setNumber(left.isTextBefore(right) ? 1 : 0);
            return 0;
        }

        private static int calculate(int kind, Value left, Value right) {
            long a = left.number;
            long b = right.number;
            long result = kind == '+' ? a + b : kind == '-' ? a - b : kind == '*' ? a * b : a < b ? 1 : 0;
            if (result != (int) result) {
                return NUMBER;
            }
            left.setNumber((int) result);
            return 0;
        }

        private static int joinTexts(Value left, Value right) {
            char[] row = left.ownRow();
            int length = left.length + right.length;
            if (length > row.length) {
                return FULL;
            }
            System.arraycopy(left.characters, 0, row, 0, left.length);
            System.arraycopy(right.characters, 0, row, left.length, right.length);
            left.setText(row, length, left.safe && right.safe);
            return 0;
        }
    }

    /**
     * Renders templates. It keeps a stack of its own of the bodies that are
     * open, for these can be far more than calls may be. What meets a tag
     * returns 0, or why rendering fails.
     */
    private static final class Renderer {
        final Template[] templates = new Template[DIGITS];
        /** Of each message its two forms, one behind the other. */
        final Value[] forms = new Value[2 * DIGITS];
        final Fragment[] fragments = new Fragment[DIGITS];
        private final Finder finder = new Finder();
        final Stack stack = finder.stack;
        final Output output = new Output();
        int mostSteps = STEPS_AT_FIRST;
        int steps;
        int hitCount;

        Renderer() {
            for (int i = 0; i < DIGITS; i++) {
                templates[i] = new Template();
                fragments[i] = new Fragment();
            }
            for (int i = 0; i < 2 * DIGITS; i++) {
                forms[i] = new Value();
                forms[i].setText(NO_CHARACTERS, 0, true);
            }
        }

        void forgetFragments() {
            for (int i = 0; i < DIGITS; i++) {
                fragments[i].tag = null;
            }
        }

        int run(int template) {
            output.begin();
            stack.begin();
            steps = 0;
            hitCount = 0;
            int failure = layLine(0, template);
            for (int turn = 0; turn < MOST_TURNS && failure == 0 && stack.top >= 0; turn++) {
                Frame frame = stack.frames[stack.top];
                Node node = frame.next;
                if (node == null) {
                    failure = end(frame);
                } else {
                    frame.next = node.next;
                    failure = node.kind != '$' && !pay() ? STEPS : isCall(node) ? openCall(node) : meet(node);
                }
                if (failure != 0) {
                    failure = rescue(failure);
                }
            }
            if (failure != 0) {
                output.empty();
                return failure;
            }
            return output.length;
        }

        /** Gives a frame the line of a template, and the body of the last one in it. */
        private int layLine(int at, int template) {
            Frame frame = stack.frames[at];
            frame.lineAt = at;
            frame.lineLength = 0;
            int last = template;
            for (int i = 0; i < DIGITS; i++) {
                frame.line[i] = last;
                frame.lineLength = i + 1;
                frame.next = templates[last].body;
                int parent = templates[last].parent;
                if (parent == NONE) {
                    return 0;
                }
                if (placeInLine(frame, parent) != NONE) {
                    return DEPTH;
                }
                last = parent;
            }
            return DEPTH;
        }

        private static int placeInLine(Frame frame, int template) {
            for (int i = 0; i < frame.lineLength; i++) {
                if (frame.line[i] == template) {
                    return i;
                }
            }
            return NONE;
        }

        private Frame lineFrame() {
            return stack.frames[stack.frames[stack.top].lineAt];
        }

        private boolean pay() {
            if (steps >= mostSteps) {
                return false;
            }
            steps++;
            return true;
        }

        private static boolean isCall(Node node) {
            return node.kind == '!' || node.kind == '&';
        }

        /** Goes back to the innermost try, if there is one and it may help. */
        private int rescue(int failure) {
            if (failure == STEPS) {
                return failure;
            }
            for (int at = stack.top; at >= 0; at--) {
                Frame frame = stack.frames[at];
                if (frame.kind == '+') {
                    output.restore(frame);
                    stack.cut(at);
                    return enter(frame.tag.second);
                }
            }
            return failure;
        }

        private int end(Frame frame) {
            if (frame.kind == '*') {
                return startRound(frame);
            }
            if (frame.kind == 'k' && frame.keepable && frame.tag.digit >= 0) {
                fragments[frame.tag.digit].keep(frame, lineFrame(), output, stack);
            }
            stack.cut(stack.top);
            return 0;
        }

        private int meet(Node node) {
            switch (node.kind) {
                case '$':
                    return 0;
                case LITERAL:
                    return output.putLiteral(node.character, node.origin());
                case '=':
                case 't':
                case '?':
                case '*':
                case '%':
                    return meetWithValue(node);
                case '+':
                    return enterTry(node);
                case '#':
                    return openBody(node, firstBlock(0, node.digit));
                case '^':
                    return openUp(node);
                case '@':
                    return openInclude(node);
                case '~':
                    return openCallersBody(node);
                case 'k':
                    return meetFragment(node);
                default:
                    stack.spoilKeeping();
                    output.trim();
                    return 0;
            }
        }

        private int meetWithValue(Node node) {
            int failure = finder.find(node.expression, stack.scope(), 0, 0);
            if (failure != 0) {
                return failure;
            }
            Value value = finder.found();
            switch (node.kind) {
                case '=':
                    return output.putValue(value, node.origin());
                case 't':
                    return value.kind == IS_NUMBER ? output.putForm(formOf(node, value), value.number, node.origin()) : TYPE;
                case '?':
                    return enter(value.isTrue() ? node.body : node.second);
                case '*':
                    return enterLoop(node, value);
                default:
                    return stack.set(node.letter, value) ? 0 : DEPTH;
            }
        }

        private Value formOf(Node node, Value count) {
            return forms[2 * node.digit + (count.number == 1 ? 0 : 1)];
        }

        private int enter(Node body) {
            return body == null || stack.push(PLAIN, null, body) != null ? 0 : DEPTH;
        }

        private int enterLoop(Node node, Value value) {
            if (value.kind != IS_LIST) {
                return TYPE;
            }
            if (value.items.length == 0) {
                return enter(node.second);
            }
            Frame frame = stack.pushScope('*', node, null);
            if (frame == null) {
                return DEPTH;
            }
            // At the end of the body, which it stands at, the next round starts.
            frame.list.refer(value);
            frame.round = 0;
            return 0;
        }

        private int startRound(Frame frame) {
            Value[] items = frame.list.items;
            if (frame.round >= items.length) {
                stack.cut(stack.top);
                return 0;
            }
            if (!pay()) {
                return STEPS;
            }
            stack.filled = frame.base;
            frame.count = 0;
            frame.next = frame.tag.body;
            Value item = items[frame.round];
            frame.round++;
            return stack.set(frame.tag.letter, item) ? 0 : DEPTH;
        }

        private int enterTry(Node node) {
            Frame frame = stack.pushScope('+', node, node.body);
            if (frame == null) {
                return DEPTH;
            }
            output.markToRestore(frame);
            return 0;
        }

        /** The first block of a digit in the first template that has one, from a place in the line on. */
        private Node firstBlock(int from, int digit) {
            Frame frame = lineFrame();
            for (int i = from; digit >= 0 && i < frame.lineLength; i++) {
                Node block = templates[frame.line[i]].blocks[digit];
                if (block != null) {
                    return block;
                }
            }
            return null;
        }

        private int openBody(Node node, Node block) {
            if (block == null) {
                return BLOCK;
            }
            return stack.open(node, block.body) != null ? 0 : DEPTH;
        }

        private int openUp(Node node) {
            int place = placeInLine(lineFrame(), node.home);
            return openBody(node, place == NONE ? null : firstBlock(place + 1, node.digit));
        }

        private int openInclude(Node node) {
            Frame frame = stack.open(node, null);
            if (frame == null) {
                return DEPTH;
            }
            frame.callAt = NONE;
            return layLine(stack.top, node.digit);
        }

        private Node firstMacro(int digit) {
            Frame frame = lineFrame();
            for (int i = 0; i < frame.lineLength; i++) {
                Node macro = templates[frame.line[i]].macros[digit];
                if (macro != null) {
                    return macro;
                }
            }
            return null;
        }

        private int openCall(Node call) {
            Node macro = firstMacro(call.digit);
            if (macro == null) {
                return MACRO;
            }
            // The variables above those in use become the macro's, and its frame
            // the next one, ahead of its being open: defaults are found in it.
            int at = stack.top + 1;
            if (at >= MOST_FRAMES || stack.filled > MOST_VARIABLES - MOST_PARAMETERS) {
                return DEPTH;
            }
            Frame scope = stack.frames[at];
            scope.base = stack.filled;
            scope.behind = NONE;
            scope.count = countNamed(macro);
            for (int i = 0; i < MOST_PARAMETERS; i++) {
                stack.variables[scope.base + i].letter = NONE;
            }
            int failure = giveArguments(call, macro, scope.base);
            if (failure == 0) {
                failure = giveDefaults(macro, scope.base, at);
            }
            if (failure != 0) {
                return failure;
            }
            Frame frame = stack.open(call, macro.body);
            if (frame == null) {
                return DEPTH;
            }
            frame.behind = NONE;
            frame.count = countNamed(macro);
            stack.filled = frame.base + frame.count;
            frame.callAt = call.kind == '&' ? stack.top : NONE;
            return 0;
        }

        private static int countNamed(Node tag) {
            int count = 0;
            Node named = tag.named;
            for (int i = 0; i < MOST_PARAMETERS && named != null; i++) {
                count++;
                named = named.next;
            }
            return count;
        }

        private int giveArguments(Node call, Node macro, int base) {
            int unnamed = 0;
            Node argument = call.named;
            for (int i = 0; i < MOST_PARAMETERS && argument != null; i++) {
                int failure = finder.find(argument.expression, stack.scope(), 0, 0);
                if (failure != 0) {
                    return failure;
                }
                int place = argument.letter == NONE ? unnamed : placeOfParameter(macro, argument.letter);
                if (argument.letter == NONE) {
                    unnamed++;
                }
                if (place == NONE || place >= countNamed(macro) || stack.variables[base + place].letter != NONE) {
                    return MACRO;
                }
                stack.variables[base + place].letter = letterOfParameter(macro, place);
                stack.variables[base + place].keep(finder.found());
                argument = argument.next;
            }
            return 0;
        }

        private static int placeOfParameter(Node macro, int letter) {
            Node parameter = macro.named;
            for (int i = 0; i < MOST_PARAMETERS && parameter != null; i++) {
                if (parameter.letter == letter) {
                    return i;
                }
                parameter = parameter.next;
            }
            return NONE;
        }

        private static int letterOfParameter(Node macro, int place) {
            Node parameter = macro.named;
            for (int i = 0; i < place && parameter != null; i++) {
                parameter = parameter.next;
            }
            return parameter == null ? NONE : parameter.letter;
        }

        private int giveDefaults(Node macro, int base, int scope) {
            Node parameter = macro.named;
            for (int i = 0; i < MOST_PARAMETERS && parameter != null; i++) {
                Value variable = stack.variables[base + i];
                if (variable.letter == NONE) {
                    variable.setNothing();
                    if (parameter.expression != null) {
                        int failure = finder.find(parameter.expression, scope, 0, 0);
                        if (failure != 0) {
                            return failure;
                        }
                        variable.keep(finder.found());
                    }
                    variable.letter = parameter.letter;
                }
                parameter = parameter.next;
            }
            return 0;
        }

        private int openCallersBody(Node node) {
            stack.spoilKeeping();
            int callAt = stack.frames[stack.top].callAt;
            if (callAt < 1) {
                return 0;
            }
            Frame frame = stack.open(node, stack.frames[callAt].tag.body);
            if (frame == null) {
                return DEPTH;
            }
            // The call was pushed on the frame in which it stands.
            Frame site = stack.frames[callAt - 1];
            frame.behind = site.scope;
            frame.lineAt = site.lineAt;
            frame.callAt = site.callAt;
            return 0;
        }

        private int meetFragment(Node node) {
            Fragment fragment = fragments[node.digit];
            int scope = stack.scope();
            if (fragment.fits(node, lineFrame(), output, stack, scope)) {
                hitCount++;
                for (int letter = 0; letter < LETTERS; letter++) {
                    if ((fragment.scopeReads >> letter & 1) != 0) {
                        stack.read(scope, letter);
                    }
                    if ((fragment.dataReads >> letter & 1) != 0) {
                        stack.read(NONE, letter);
                    }
                }
                return output.putCells(fragment.cells, fragment.length);
            }
            Frame frame = stack.open(node, node.body);
            if (frame == null) {
                return DEPTH;
            }
            output.mark(frame);
            frame.keepAt = stack.top;
            frame.scopeReads = 0;
            frame.dataReads = 0;
            frame.keepable = true;
            return 0;
        }
    }

    /** Looks ahead in templates, without data. */
    private static final class Foresight {
        private static final int ALL = (1 << CONTEXTS) - 1;

        /** The contexts in which one may stand behind a body. */
        private static int through(Node first, int ahead, int changed, int depth) {
            int set = ahead;
            if (depth >= MOST_NESTED) {
                return ALL;
            }
            for (Node node = first; node != null; node = node.next) {
                set = behind(node, set, changed, depth);
            }
            return set;
        }

        private static int behind(Node node, int set, int changed, int depth) {
            switch (node.kind) {
                case LITERAL:
                    return leadAll(set, node.character) | (node.character == ' ' ? set : 0);
                case '-':
                    return has(set, TAG) ? set | 1 << OPENED : set;
                case '=':
                    if (mayBeSafe(node.expression, changed, 0)) {
                        return ALL;
                    }
                    return has(set, OPENED) ? set | 1 << TAG : set;
                case '?':
                case '+':
                    return through(node.body, set, changed, depth + 1) | through(node.second, set, changed, depth + 1);
                case '*':
                    return behindLoop(node, set, changed, depth);
                case 'k':
                    return through(node.body, set, changed, depth + 1);
                case '%':
                case '$':
                    return set;
                default:
                    return ALL;
            }
        }

        /** Each time but the last one adds a context, so there are few of them. */
        private static int behindLoop(Node node, int set, int changed, int depth) {
            int ahead = set;
            int left = through(node.body, ahead, changed, depth + 1);
            for (int i = 0; i < CONTEXTS && (ahead | left) != ahead; i++) {
                ahead |= left;
                left = through(node.body, ahead, changed, depth + 1);
            }
            return left | through(node.second, set, changed, depth + 1);
        }

        private static boolean has(int set, int context) {
            return (set >> context & 1) != 0;
        }

        private static int leadAll(int set, char c) {
            int led = 0;
            for (int context = 0; context < CONTEXTS; context++) {
                if (has(set, context)) {
                    led |= 1 << lead(context, c);
                }
            }
            return led;
        }

        private static boolean mayBeSafe(Expression part, int changed, int depth) {
            if (part == null || depth >= MOST_NESTED) {
                return false;
            }
            switch (part.kind) {
                case NUMERAL:
                    return false;
                case QUOTE:
                case 'r':
                    return true;
                case VARIABLE:
                case ITEM:
                    return has(changed, part.number);
                default:
                    return mayBeSafe(part.left, changed, depth + 1) || mayBeSafe(part.right, changed, depth + 1);
            }
        }

        /** The place of the first tag of a body that may fail, if variables have the kinds; NONE if there is none. */
        private static int firstFailing(Node first, int[] kindsAhead, int depth) {
            if (first == null || depth >= MOST_NESTED) {
                return NONE;
            }
            int[] kinds = kindsAhead.clone();
            for (Node node = first; node != null; node = node.next) {
                if (node.kind != LITERAL && node.kind != '$') {
                    int place = mayFail(node, kinds) ? node.place : failingWithin(node, kinds, depth);
                    if (place != NONE) {
                        return place;
                    }
                    if (node.kind == '%' && node.letter >= 0) {
                        kinds[node.letter] = kindsOf(node.expression, kinds, 0) & IS_ANY;
                    }
                }
            }
            return NONE;
        }

        private static boolean mayFail(Node node, int[] kinds) {
            switch (node.kind) {
                case '=':
                    return (kindsOf(node.expression, kinds, 0) & (MAY_FAIL | IS_NOTHING | IS_LIST)) != 0;
                case '*':
                    return (kindsOf(node.expression, kinds, 0) & (MAY_FAIL | IS_ANY - IS_LIST)) != 0;
                case 't':
                    return (kindsOf(node.expression, kinds, 0) & (MAY_FAIL | IS_ANY - IS_NUMBER)) != 0;
                case '?':
                case '%':
                    return (kindsOf(node.expression, kinds, 0) & MAY_FAIL) != 0;
                default:
                    return mayFailInArguments(node, kinds);
            }
        }

        private static boolean mayFailInArguments(Node node, int[] kinds) {
            for (Node argument = node.named; argument != null; argument = argument.next) {
                if ((kindsOf(argument.expression, kinds, 0) & MAY_FAIL) != 0) {
                    return true;
                }
            }
            return false;
        }

        private static int failingWithin(Node node, int[] kinds, int depth) {
            int letter = NONE;
            int kindsWithin = 0;
            if (node.kind == '*') {
                letter = node.letter;
                kindsWithin = IS_NUMBER | IS_TEXT;
            } else if (node.kind == '?' && node.expression != null && node.expression.kind == VARIABLE) {
                letter = node.expression.number;
                kindsWithin = kinds[letter] & ~IS_NOTHING;
            }
            int place;
            if (letter >= 0) {
                int kindsBefore = kinds[letter];
                kinds[letter] = kindsWithin;
                place = firstFailing(node.body, kinds, depth + 1);
                kinds[letter] = kindsBefore;
            } else {
                place = firstFailing(node.body, kinds, depth + 1);
            }
            return place != NONE ? place : firstFailing(node.second, kinds, depth + 1);
        }

        /** The kinds that an expression may have; 0 if a value in it has none left. */
        private static int kindsOf(Expression whole, int[] kinds, int depth) {
            if (whole == null || depth >= MOST_NESTED) {
                return 0;
            }
            switch (whole.kind) {
                case NUMERAL:
                    return IS_NUMBER;
                case QUOTE:
                    return IS_TEXT;
                case VARIABLE:
                    return kinds[whole.number];
                case ITEM:
                    return kindsOfFilter(ITEM, kinds[whole.number]);
                default:
                    break;
            }
            int left = kindsOf(whole.left, kinds, depth + 1);
            if (whole.right == null) {
                return left & MAY_FAIL | kindsOfFilter(whole.kind, left & IS_ANY);
            }
            int right = kindsOf(whole.right, kinds, depth + 1);
            return (left | right) & MAY_FAIL | kindsOfOperation(whole.kind, left & IS_ANY, right & IS_ANY);
        }

        private static int kindsOfFilter(int kind, int from) {
            if (from == 0) {
                return 0;
            }
            switch (kind) {
                case ITEM:
                    return wanted(from, IS_LIST, IS_NUMBER | IS_TEXT);
                case 'u':
                case 'r':
                    return wanted(from, IS_TEXT, IS_TEXT);
                case 'l':
                    return wanted(from, IS_TEXT | IS_LIST, IS_NUMBER);
                case 'j':
                    return wanted(from, IS_LIST, IS_TEXT);
                case 'n':
                    return wanted(from, IS_TEXT, IS_NOTHING | IS_NUMBER);
                default:
                    return IS_NUMBER;
            }
        }

        /** The kinds of the result if the value has kinds that are right, and whether it may have others. */
        private static int wanted(int from, int right, int result) {
            return ((from & right) != 0 ? result : 0) | ((from & ~right) != 0 ? MAY_FAIL : 0);
        }

        private static int kindsOfOperation(int kind, int left, int right) {
            if (left == 0 || right == 0) {
                return 0;
            }
            switch (kind) {
                case '?':
                case 'd':
                    return left & ~IS_NOTHING | right;
                case '-':
                case '*':
                    return wanted(left | right, IS_NUMBER, IS_NUMBER);
                case '+':
                    return left & right & (IS_NUMBER | IS_TEXT) | mismatch(left, right);
                case '<':
                    return IS_NUMBER | mismatch(left, right);
                default:
                    return IS_NUMBER;
            }
        }

        private static int mismatch(int left, int right) {
            boolean same = left == right && (left == IS_NUMBER || left == IS_TEXT);
            return same ? 0 : MAY_FAIL;
        }
    }
}
