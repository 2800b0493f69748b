import java.io.IOException;
import java.nio.file.Files;
import java.nio.file.Path;
import java.util.ArrayList;
import java.util.List;

/** The document's sentences: that those which are quoted stand there, and that none is left without a test. */
final class Document {
    private static final int PROMISES = 45;
    private final String about;
    private final String terms;
    private final List<String> promises = new ArrayList<>();

    Document(Path path) throws IOException {
        String all = Files.readString(path);
        about = plain(between(all, "## What it is", "## The public face"));
        terms = plain(between(all, "## Terms", "Ahead of the calls"));
        for (int n = 1; n <= PROMISES; n++) {
            String end = n < PROMISES ? "## Promise " + (n + 1) + ":" : "## Not promised";
            String section = between(all, "## Promise " + n + ":", end);
            promises.add(plain(section.substring(section.indexOf("`: ") + 3)));
        }
    }

    private static String between(String all, String begin, String end) {
        int from = all.indexOf(begin);
        int to = all.indexOf(end, from + 1);
        if (from < 0 || to < 0) {
            throw new IllegalStateException("the document has no part from " + begin + " to " + end);
        }
        return all.substring(from + begin.length(), to);
    }

    private static String plain(String part) {
        return part.replaceAll("```(text)?", " ").replaceAll("======== \\d", " ").replaceAll("\\s+", " ").trim();
    }

    /** What is amiss: a quote that stands nowhere, or words that no test quotes. */
    List<String> amiss(List<Sentences.Quote> quotes) {
        List<String> amiss = new ArrayList<>();
        List<String> ofTerms = new ArrayList<>();
        List<List<String>> ofPromises = new ArrayList<>();
        for (int n = 0; n < PROMISES; n++) {
            ofPromises.add(new ArrayList<>());
        }
        for (Sentences.Quote quote : quotes) {
            if (promises.get(quote.promise() - 1).contains(quote.words())) {
                ofPromises.get(quote.promise() - 1).add(quote.words());
            } else if (terms.contains(quote.words())) {
                ofTerms.add(quote.words());
            } else if (!about.contains(quote.words())) {
                amiss.add("promise " + quote.promise() + " has no sentence \"" + quote.words() + "\"");
            }
        }
        for (int n = 0; n < PROMISES; n++) {
            addUntried(amiss, "promise " + (n + 1), promises.get(n), ofPromises.get(n));
        }
        addUntried(amiss, "the terms", terms, ofTerms);
        return amiss;
    }

    private static void addUntried(List<String> amiss, String name, String part, List<String> quotes) {
        boolean[] tried = new boolean[part.length()];
        for (String quote : quotes) {
            for (int at = part.indexOf(quote); at >= 0; at = part.indexOf(quote, at + 1)) {
                for (int i = 0; i < quote.length(); i++) {
                    tried[at + i] = true;
                }
            }
        }
        StringBuilder left = new StringBuilder();
        for (int i = 0; i < part.length(); i++) {
            left.append(tried[i] ? ' ' : part.charAt(i));
        }
        if (left.chars().anyMatch(Character::isLetterOrDigit)) {
            amiss.add(name + " has no test for: " + left.toString().replaceAll("\\s+", " ").trim());
        }
    }
}
