import java.io.IOException;
import java.io.UncheckedIOException;
import java.nio.file.Files;
import java.nio.file.Path;

/** A new object with what tests do to it again and again, and the count of what was not as due. */
final class Sheet {
    private static final Path DOCUMENT = Path.of("../shared/DOC.md");

    private static int asked;
    private static int wrong;
    private static String document;
    private static String sentence = "";
    private static int askedAhead;
    private static int sentences;

    final Quarry x = new Quarry();

    interface Call {
        void run();
    }

    /** What is asked from here on goes by a sentence of the document, which must stand there word by word. */
    static void says(String words) {
        closeSentence();
        sentence = words;
        askedAhead = asked;
        sentences++;
        if (Files.exists(DOCUMENT) && !document().contains(words)) wrong("the document does not say this");
    }

    private static void closeSentence() {
        if (sentences > 0 && asked == askedAhead) wrong("nothing is asked of this");
    }

    private static String document() {
        if (document == null) {
            try {
                document = Files.readString(DOCUMENT);
            } catch (IOException e) {
                throw new UncheckedIOException(e);
            }
        }
        return document;
    }

    private static void wrong(String what) {
        wrong++;
        System.out.println((sentence.isEmpty() ? "" : "\"" + sentence + "\"\n    ") + what);
    }

    static void due(String what, long got, long want) {
        asked++;
        if (got != want) wrong(what + ": answered " + got + ", due is " + want);
    }

    static void due(String what, boolean got, boolean want) {
        due(what, got ? 1 : 0, want ? 1 : 0);
    }

    static void due(String what, String got, String want) {
        asked++;
        if (!got.equals(want)) wrong(what + ": answered [" + got + "], due is [" + want + "]");
    }

    static void throwsDue(String what, Class<? extends RuntimeException> want, Call call) {
        asked++;
        try {
            call.run();
        } catch (RuntimeException e) {
            if (e.getClass() != want) wrong(what + ": threw " + e + ", due is " + want);
            return;
        }
        wrong(what + ": threw nothing, due is " + want);
    }

    static void end() {
        closeSentence();
        String bySentences = sentences == 0 ? "" : ", by " + sentences + " sentences of the document";
        System.out.println(asked - wrong + " of " + asked + " answers are as due" + bySentences);
        if (wrong != 0 || asked == 0) System.exit(1);
    }

    Sheet type(String s) {
        for (char c : s.toCharArray()) x.type(c);
        return this;
    }

    /** The object takes no more typed text than 80 characters, and a message no other than typed. */
    Sheet set(int template, String s) {
        type(s);
        x.template(template);
        return this;
    }

    Sheet message(int message, String one, String other) {
        type(one);
        x.message(message, 0);
        type(other);
        x.message(message, 1);
        return this;
    }

    Sheet number(char name, int value) {
        x.number(name, value);
        return this;
    }

    Sheet text(char name, String s) {
        type(s);
        x.text(name);
        return this;
    }

    /** Numbers as numbers, all others as texts. */
    Sheet list(char name, String... items) {
        x.list(name);
        for (String item : items) {
            if (item.matches("-?[0-9]+")) {
                x.add(name, Integer.parseInt(item));
            } else {
                type(item);
                x.addText(name);
            }
        }
        return this;
    }

    String shown() {
        StringBuilder b = new StringBuilder();
        for (int i = 0; ; i++) {
            try {
                b.append(x.out(i));
            } catch (IndexOutOfBoundsException e) {
                return b.toString();
            }
        }
    }

    void renders(int template, String want) {
        int n = x.render(template);
        due("render " + template + " for " + want, n < 0 ? "fails " + n : shown(), want);
        if (n >= 0) due("length of " + want, n, want.length());
    }

    void fails(int template, int want) {
        due("render " + template, x.render(template), want);
        due("output of what failed", shown(), "");
    }

    /** What a template alone renders to, with the data that the sheet has. */
    void puts(String text, String want) {
        set(9, text);
        int n = x.render(9);
        due(text, n < 0 ? "fails " + n : shown(), want);
    }

    void fails(String text, int want) {
        set(9, text);
        due(text, x.render(9), want);
        due("output of " + text, shown(), "");
    }

    /** Begins the text with which a fault is asked for anew. */
    void fault(String text, int want) {
        x.wipe();
        type(text);
        due("fault of " + text, x.fault(), want);
        due("the text stays", x.wipe(), text.length());
    }

    void mayEnd(String text, int... contexts) {
        set(9, text);
        int want = 0;
        for (int c : contexts) want |= 1 << c;
        due("mayEnd of " + text, x.mayEnd(9), want);
    }

    void check(String text, int want) {
        set(9, text);
        due("check of " + text, x.check(9), want);
    }
}
