import java.io.IOException;
import java.nio.charset.StandardCharsets;
import java.nio.file.Files;
import java.nio.file.Path;
import java.util.ArrayList;
import java.util.LinkedHashMap;
import java.util.List;
import java.util.Map;
import java.util.function.ToLongFunction;

/** Dues that a sentence of the document asks for. Each sentence is quoted as it stands there. */
final class Sentences extends Dues {
    /** Kinds of objects that a refused call must leave as they are. */
    static final int KINDS = 8;

    private final Map<String, List<String>> quotes = new LinkedHashMap<>();

    /** What is due from here on is due by this sentence. */
    void promise(int number, String sentence) {
        quote("Promise " + number, sentence);
    }

    /** What is due from here on is due by this sentence. */
    void terms(String sentence) {
        quote("Terms", sentence);
    }

    /** What is due from here on is due by this sentence. */
    void whatItIs(String sentence) {
        quote("What it is", sentence);
    }

    private void quote(String section, String sentence) {
        at(section + ", \"" + sentence + "\"");
        quotes.computeIfAbsent(section, none -> new ArrayList<>()).add(sentence);
    }

    WholeSolver kind(int kind) {
        switch (kind) {
            case 0:
                return new WholeSolver();
            case 1:
                return solver(1, eq(2, 0, 0, 0, 4));
            case 2:
                return solver(2, eq(3, 5, 0, 0, 1));
            case 3:
                return solver(3, eq(6, 4, 9, 0, 1), eq(0, 2, -4, 0, 6));
            case 4:
                return solver(4, eq(1, 2, 3, 4, 5), eq(2, 4, 6, 8, 11));
            case 5:
                return solver(4);
            case 6:
                return solver(1, eq(2, 0, 0, 0, 4), eq(-3, 0, 0, 0, -6), eq(9, 0, 0, 0, 17));
            default:
                return solver(4, eq(9, -9, 0, 1, 7), eq(0, 3, 4, 0, -2), eq(1, 0, 1, 5, 1000));
        }
    }

    /** The call answers so, and the object stays as one to which it was never made. */
    void doesNothing(WholeSolver x, WholeSolver untouched, String call, ToLongFunction<WholeSolver> made, long want) {
        due(call, made.applyAsLong(x), want);
        int equations = untouched.count(2);
        for (int dropped = 0; dropped <= equations; dropped++) {
            for (Ask ask : Ask.ALL) {
                due("after " + call + " and " + dropped + " drops, " + ask.name(), ask.of(x), ask.of(untouched));
            }
            due("drop()", x.drop(), untouched.drop());
        }
    }

    /** The same for every kind of object. */
    void doesNothing(String call, ToLongFunction<WholeSolver> made, long want) {
        for (int kind = 0; kind < KINDS; kind++) {
            doesNothing(kind(kind), kind(kind), call, made, want);
        }
    }

    /**
     * Each quote stands in its section, and nothing of Terms and of the promises is left without one.
     * Tells nothing where the document is not at hand: the answers are due all the same.
     */
    void compareWith(Path document) {
        if (!Files.isReadable(document)) {
            System.out.println(document + " is not here: the quotes are not compared with it");
            return;
        }
        for (String section : sections(document)) {
            int end = section.indexOf('\n');
            String title = end < 0 ? section : section.substring(0, end);
            String name = title.contains(":") ? title.substring(0, title.indexOf(':')) : title;
            at("the document's section " + name);
            comparePart(name, section.substring(title.length()).replaceAll("\\s+", " "));
        }
        for (String name : quotes.keySet()) {
            holds("a section " + name, false);
        }
    }

    private static String[] sections(Path document) {
        try {
            return Files.readString(document, StandardCharsets.UTF_8).split("\n## ");
        } catch (IOException thrown) {
            throw new IllegalStateException(thrown);
        }
    }

    private void comparePart(String name, String text) {
        List<String> quoted = quotes.remove(name);
        String left = text;
        for (String sentence : quoted == null ? List.<String>of() : quoted) {
            holds("\"" + sentence + "\" stands there", text.contains(sentence));
            left = left.replace(sentence, " ");
        }
        if (name.startsWith("Promise ")) {
            left = left.replaceFirst("`[^`]*`:", " ");
        }
        if (name.startsWith("Promise ") || name.equals("Terms")) {
            holds("a test for each sentence, but \"" + left.trim() + "\" has none", !left.matches(".*\\w.*"));
        }
    }
}
