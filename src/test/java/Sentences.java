import java.io.IOException;
import java.io.UncheckedIOException;
import java.nio.file.Files;
import java.nio.file.Path;
import java.util.LinkedHashMap;
import java.util.Map;

/** The sentences of the document, each held by runs of its own, and which of its words were held by none. */
final class Sentences {
    static final Sentences ALL = new Sentences(Path.of("../shared/DOC.md"));

    private final Due due = new Due();
    private final Map<String, Section> sections = new LinkedHashMap<>();
    private int runs;

    private static final class Section {
        final String text;
        final boolean[] held;

        Section(String text) {
            this.text = text;
            held = new boolean[text.length()];
        }

        boolean hold(String quote) {
            int at = text.indexOf(quote);
            for (int from = at; from >= 0; from = text.indexOf(quote, from + 1)) {
                for (int i = from; i < from + quote.length(); i++) {
                    held[i] = true;
                }
            }
            return at >= 0;
        }

        String heldByNone() {
            StringBuilder words = new StringBuilder();
            for (int i = 0; i < held.length; i++) {
                boolean left = !held[i] && Character.isLetterOrDigit(text.charAt(i));
                words.append(left || !held[i] && words.length() > 0 ? text.charAt(i) : "");
            }
            return words.toString().replaceAll("\\s+", " ").strip();
        }
    }

    /** Where the document is not at hand the runs are made all the same, only their quotes are not looked up. */
    private Sentences(Path document) {
        try {
            if (Files.exists(document)) {
                read(Files.readString(document));
            }
        } catch (IOException e) {
            throw new UncheckedIOException(e);
        }
    }

    private void read(String document) {
        int terms = document.indexOf("## Terms\n");
        int end = document.indexOf("## Not promised");
        for (String section : document.substring(terms, end).split("(?m)^## ")) {
            int line = section.indexOf('\n');
            if (section.startsWith("Promise ")) {
                String title = section.substring(0, section.indexOf(':'));
                sections.put(title, new Section(section.substring(section.indexOf("`: ") + 3)));
            } else if (line > 0) {
                sections.put("Terms", new Section(sentencesOf(section.substring(line))));
            }
        }
    }

    /** The headings of the parts, and of the calls, are no sentences, but for what a heading says in brackets. */
    private static String sentencesOf(String terms) {
        return terms.replaceAll("(?m)^```.*$", "").replaceAll("(?m)^======== \\d ", "")
            .replaceAll("(?m)^Ahead of the calls [^(]*$", "").replaceAll("(?m)^Ahead of the calls .*(?=\\()", "");
    }

    /** A sentence of the section "Terms", or a part of one. */
    Run terms(String quote) {
        return run("Terms", quote);
    }

    /** A sentence of the section "Promise n", or a part of one. */
    Run promise(int n, String quote) {
        return run("Promise " + n, quote);
    }

    private Run run(String section, String quote) {
        runs++;
        if (!sections.isEmpty()) {
            due.is("the document says \"" + quote + "\"", sections.get(section).hold(quote) ? 1 : 0, 1);
        }
        return new Run(due, section + ": " + quote);
    }

    void end(String test) {
        if (!sections.isEmpty()) {
            due.is("the terms and 41 promises", sections.size(), 42);
        }
        sections.forEach((title, section) ->
            due.is(title + ", words that no run holds: " + section.heldByNone(), section.heldByNone().isEmpty() ? 0 : 1, 0));
        System.out.println(test + ": " + runs + " runs, quotes of " + sections.size() + " sections");
        due.end(test);
    }
}
