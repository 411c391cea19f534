import java.io.IOException;
import java.nio.file.Files;
import java.nio.file.Path;

/** The examples of README.md: what they set, and what template 0 puts out then. */
public final class ReadmeTest {
    private static final String TEMPLATE = "([0-9]): (.*)";
    private static final String TEXT = "([a-z]) = (.*)";
    private static final String MESSAGE = "messages? ([0-9]): (.*)";
    private static final String PUTS_OUT = "puts out: ";

    public static void main(String[] args) throws IOException {
        asForHello();
        int examples = 0;
        Sheet s = new Sheet();
        for (String line : Files.readAllLines(Path.of("README.md"))) {
            String said = line.strip();
            if (!line.startsWith("    ")) {
                continue;
            } else if (said.startsWith(PUTS_OUT)) {
                s.renders(0, said.substring(PUTS_OUT.length()));
                s = new Sheet();
                examples++;
            } else {
                set(s, said);
            }
        }
        Sheet.due("examples", examples, 5);
        Sheet.end();
    }

    private static void set(Sheet s, String said) {
        if (said.matches(TEMPLATE)) {
            s.set(said.charAt(0) - '0', said.replaceFirst(TEMPLATE, "$2"));
        } else if (said.matches(TEXT)) {
            s.text(said.charAt(0), said.replaceFirst(TEXT, "$2"));
        } else if (said.matches(MESSAGE)) {
            s.type(said.replaceFirst(MESSAGE, "$2"));
            s.x.message(said.replaceFirst(MESSAGE, "$1").charAt(0) - '0', said.startsWith("messages") ? 1 : 0);
        }
    }

    /** The answers that stand beside the calls. */
    private static void asForHello() {
        Sheet s = new Sheet();
        s.type("<b>Hello {=n}</b>");
        Sheet.due("template", s.x.template(0), 1);
        s.type("you & me");
        Sheet.due("text", s.x.text('n'), 8);
        Sheet.due("render", s.x.render(0), 23);
        Sheet.due("output", s.shown(), "<b>Hello you &a; me</b>");
        Sheet.due("source", s.x.source(9), 9);
        Sheet.due("context", s.x.context(1), TemplateQuarry.OPENED);
    }
}
