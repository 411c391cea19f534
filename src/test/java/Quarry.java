import java.util.ArrayList;
import java.util.LinkedHashMap;
import java.util.List;
import java.util.Map;
import java.util.function.ToLongFunction;

/**
 * A TemplateQuarry of which no object is used for more than 512 calls, for what later calls answer is free.
 * Ahead of that a new object takes the place of the old one, by the calls that made the old one what it is.
 * Where these have become many, the renderings among them are left out: their output may not be asked for then.
 */
final class Quarry {
    private static final int MOST_CALLS = 512;
    private static final int MANY_CALLS = 400;

    /** A call that changes something, with the text that it takes; what it sets, or null if it renders. */
    private record Step(String sets, boolean adds, String text, ToLongFunction<TemplateQuarry> call) {
        int calls() {
            return text.length() + 1;
        }
    }

    private TemplateQuarry object = new TemplateQuarry();
    private int used;
    private String typed = "";
    private final Map<String, List<Step>> settings = new LinkedHashMap<>();
    /** From the first rendering on. */
    private final List<Step> since = new ArrayList<>();
    /** How many renderings it takes until none that was left out can be asked for: of the settings, and of the object. */
    private int leftOut;
    private int missing;

    // ---- the face

    int type(char character) {
        int length = (int) ask(x -> x.type(character));
        typed += character;
        return length;
    }

    int wipe() {
        int length = (int) ask(TemplateQuarry::wipe);
        typed = "";
        return length;
    }

    int fault() {
        return (int) ask(TemplateQuarry::fault);
    }

    int template(int template) {
        return (int) take("template " + template, false, x -> x.template(template));
    }

    int message(int message, int form) {
        return (int) take("message " + message + form, false, x -> x.message(message, form));
    }

    void number(char name, int value) {
        set("data " + name, false, x -> {
            x.number(name, value);
            return 0;
        });
    }

    int text(char name) {
        return (int) take("data " + name, false, x -> x.text(name));
    }

    void list(char name) {
        set("data " + name, false, x -> {
            x.list(name);
            return 0;
        });
    }

    int add(char name, int value) {
        return (int) set("data " + name, true, x -> x.add(name, value));
    }

    int addText(char name) {
        return (int) take("data " + name, true, x -> x.addText(name));
    }

    boolean clear(char name) {
        return set("data " + name, false, x -> x.clear(name) ? 1 : 0) != 0;
    }

    int budget(int steps) {
        return (int) set("budget", false, x -> x.budget(steps));
    }

    int render(int template) {
        int length = (int) set(null, false, x -> x.render(template));
        leftOut = Math.max(0, leftOut - 1);
        missing = Math.max(0, missing - 1);
        return length;
    }

    int spent() {
        return (int) askOfRenderings(1, TemplateQuarry::spent);
    }

    int hits() {
        return (int) askOfRenderings(1, TemplateQuarry::hits);
    }

    int kept() {
        return (int) ask(TemplateQuarry::kept);
    }

    char out(int place) {
        return (char) askOfRenderings(1, x -> x.out(place));
    }

    char outAnew(int place) {
        return (char) askOfRenderings(1, x -> x.outAnew(place));
    }

    int source(int place) {
        return (int) askOfRenderings(1, x -> x.source(place));
    }

    int context(int place) {
        return (int) askOfRenderings(1, x -> x.context(place));
    }

    int alike() {
        return (int) askOfRenderings(2, TemplateQuarry::alike);
    }

    int alikeAtEnd() {
        return (int) askOfRenderings(2, TemplateQuarry::alikeAtEnd);
    }

    int mayEnd(int template) {
        return (int) ask(x -> x.mayEnd(template));
    }

    int shape(char name, int kinds) {
        return (int) set("shape " + name, false, x -> x.shape(name, kinds));
    }

    int check(int template) {
        return (int) ask(x -> x.check(template));
    }

    // ---- no object for more than 512 calls

    /** Whether renderings are left out, or may be after some calls more. */
    boolean hasLongPast() {
        return leftOut > 0 || past() > MANY_CALLS - 5;
    }

    /** How many calls a new object takes to become what this one is. */
    private int past() {
        int calls = typed.length();
        for (List<Step> steps : settings.values()) {
            for (Step step : steps) calls += step.calls();
        }
        for (Step step : since) calls += step.calls();
        return calls;
    }

    private long ask(ToLongFunction<TemplateQuarry> call) {
        if (used >= MOST_CALLS) renew();
        if (used >= MOST_CALLS) throw new AssertionError("what the object is takes " + used + " calls");
        used++;
        return call.applyAsLong(object);
    }

    private long askOfRenderings(int renderings, ToLongFunction<TemplateQuarry> call) {
        if (used >= MOST_CALLS) renew();
        if (missing > 2 - renderings) throw new AssertionError("this rendering was left out");
        return ask(call);
    }

    private long take(String sets, boolean adds, ToLongFunction<TemplateQuarry> call) {
        return change(new Step(sets, adds, typed, call));
    }

    private long set(String sets, boolean adds, ToLongFunction<TemplateQuarry> call) {
        return change(new Step(sets, adds, "", call));
    }

    private long change(Step step) {
        if (past() > MANY_CALLS && !since.isEmpty() && !needsFragments(step)) leaveOutRenderings();
        long answer = ask(step.call);
        if (!step.text.isEmpty()) typed = "";
        if (step.sets == null || !since.isEmpty()) {
            since.add(step);
        } else {
            note(step);
        }
        return answer;
    }

    private boolean needsFragments(Step step) {
        boolean goAnyway = step.sets != null && (step.sets.startsWith("template") || step.sets.startsWith("message"));
        return !goAnyway && kept() != 0;
    }

    private void leaveOutRenderings() {
        for (Step step : since) {
            if (step.sets != null) note(step);
        }
        since.clear();
        leftOut = 2;
    }

    private void note(Step step) {
        List<Step> steps = settings.computeIfAbsent(step.sets, k -> new ArrayList<>());
        if (!step.adds) steps.clear();
        steps.add(step);
    }

    private void renew() {
        object = new TemplateQuarry();
        used = 0;
        missing = leftOut;
        for (List<Step> steps : settings.values()) {
            for (Step step : steps) play(step);
        }
        for (Step step : since) play(step);
        for (char c : typed.toCharArray()) object.type(c);
        used += typed.length();
    }

    private void play(Step step) {
        for (char c : step.text.toCharArray()) object.type(c);
        step.call.applyAsLong(object);
        used += step.calls();
    }
}
