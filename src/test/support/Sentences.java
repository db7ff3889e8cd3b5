import java.util.ArrayList;
import java.util.List;

/**
 * The document's sentences, each with answers of its own. A sentence is quoted word by word, so that what the document says and
 * what no test quotes can both be found.
 */
final class Sentences {
    private final Check check = new Check();
    private final List<String[]> quotes = new ArrayList<>();
    private int asked = 0;

    /** From here on all answers are those of this sentence; the section is a heading's beginning, such as Promise 2. */
    void says(String section, String quote) {
        endSentence();
        quotes.add(new String[] {section, quote});
        asked = 0;
    }

    /** Words that tell nothing that an answer could break. */
    void namesNothing(String section, String quote) {
        endSentence();
        quotes.add(new String[] {section, quote});
        asked = 1;
    }

    void due(String call, long want, long got) {
        asked++;
        check.due(label() + call, want, got);
    }

    void holds(String what, boolean holds) {
        asked++;
        check.holds(label() + what, holds);
    }

    /** The place of the fault of a text that is told to a new object. */
    void dueFault(String text, int want) {
        due("fault of '" + text + "'", want, Check.faultOf(new WettedNet(), text));
    }

    void end() {
        endSentence();
        check.end();
    }

    private String label() {
        if (quotes.isEmpty()) {
            return "";
        }
        String[] last = quotes.get(quotes.size() - 1);
        return last[0] + ", \"" + last[1].substring(0, Math.min(40, last[1].length())) + "\": ";
    }

    private void endSentence() {
        if (!quotes.isEmpty()) {
            check.holds(label() + "has an answer of its own", asked > 0);
        }
    }

    // ---- the document beside it

    /** Each quote stands in its section, and no word of the Terms and of the promises stands outside all quotes. */
    void lookInto(String document) {
        String[] sections = document.split("(?m)^## ");
        int looked = 0;
        for (String section : sections) {
            if (section.startsWith("Terms") || section.startsWith("Promise ")) {
                lookForUnquoted(section);
                looked++;
            }
        }
        check.due("the Terms and the promises", 1 + 23, looked);
        for (String[] quote : quotes) {
            boolean found = false;
            for (String section : sections) {
                found |= isOf(section, quote) && plain(section).contains(plain(quote[1]));
            }
            check.holds("the document says under " + quote[0] + ": " + quote[1], found);
        }
    }

    private static boolean isOf(String section, String[] quote) {
        return section.startsWith(quote[0] + ":") || section.startsWith(quote[0] + "\n");
    }

    private void lookForUnquoted(String section) {
        // The heading's line, the fences and the numbers of parts are no sentences.
        String left = plain(section.replaceFirst("^[^\n]*", ""));
        List<String> longestFirst = new ArrayList<>();
        for (String[] quote : quotes) {
            if (isOf(section, quote)) {
                longestFirst.add(plain(quote[1]));
            }
        }
        longestFirst.sort((a, b) -> b.length() - a.length());
        for (String quote : longestFirst) {
            left = left.replace(quote, " ");
        }
        check.holds("no test quotes: " + left.trim(), left.trim().isEmpty());
    }

    private static String plain(String text) {
        return text.replaceAll("```(text)?", " ").replaceAll("======== [0-9]", " ").replaceAll("\\s+", " ").trim();
    }
}
