import java.io.IOException;
import java.nio.file.Files;
import java.nio.file.Path;

/** Holds what the edges say of the document against the document itself: each word of it is tested by some sentence. */
final class Document {
    private static final Path PLACE = Path.of("../shared/DOC.md");
    private static final int PROMISES = 40;
    private final String text;

    private Document(String text) {
        this.text = text;
    }

    static void check() throws IOException {
        if (!Files.exists(PLACE)) {
            System.out.println("the document isn't at " + PLACE + ": what the edges quote was not held against it");
            return;
        }
        Document doc = new Document(Files.readString(PLACE));
        String use = doc.between("An object is used", "## The public face");
        String terms = doc.between("THE TOWN is a TEXT", "The constants:");
        String[] promises = new String[PROMISES + 1];
        for (int k = 1; k <= PROMISES; k++) {
            String rest = doc.between("## Promise " + k + ":", k < PROMISES ? "## Promise " + (k + 1) + ":" : "## Not promised");
            promises[k] = rest.substring(rest.indexOf(")`:") + 3);
        }
        quotesStandThere(plain(use), plain(terms), promises);
        allIsQuoted("What it is", plain(use), 0);
        allIsQuoted("Terms", plain(terms), 0);
        for (int k = 1; k <= PROMISES; k++) {
            allIsQuoted("Promise " + k, plain(promises[k]), k);
        }
    }

    private String between(String from, String to) {
        int at = text.indexOf(from);
        int end = at < 0 ? -1 : text.indexOf(to, at);
        Due.is("the document has \"" + from + "\" and then \"" + to + "\"", end >= 0 ? 1 : 0, 1);
        return end < 0 ? "" : text.substring(at, end);
    }

    private static String plain(String s) {
        return s.replaceAll("```(text)?", " ").replaceAll("==== [23]\\.", " ").replaceAll("\\s+", " ").trim();
    }

    private static void quotesStandThere(String use, String terms, String[] promises) {
        for (int i = 0; i < Edge.WORDS.size(); i++) {
            String words = Edge.WORDS.get(i);
            int k = Edge.PROMISES.get(i);
            boolean stands = use.contains(words) || terms.contains(words) || plain(promises[k]).contains(words);
            Due.is("promise " + k + " or the terms say \"" + words + "\"", stands ? 1 : 0, 1);
        }
    }

    /** Words quoted for one promise stand for no other one; those of the terms stand for all. */
    private static void allIsQuoted(String name, String part, int promise) {
        boolean[] quoted = new boolean[part.length()];
        for (int i = 0; i < Edge.WORDS.size(); i++) {
            if (promise != 0 && Edge.PROMISES.get(i) != promise) {
                continue;
            }
            String words = Edge.WORDS.get(i);
            int at = part.indexOf(words);
            for (int k = at; at >= 0 && k < at + words.length(); k++) {
                quoted[k] = true;
            }
        }
        StringBuilder left = new StringBuilder();
        for (int k = 0; k < part.length(); k++) {
            left.append(quoted[k] ? '\n' : part.charAt(k));
        }
        for (String words : left.toString().split("\n+")) {
            if (words.matches("(?s).*[A-Za-z0-9].*")) {
                Due.is(name + ": no test quotes \"" + words.trim() + "\"", 0, 1);
            }
        }
    }
}
