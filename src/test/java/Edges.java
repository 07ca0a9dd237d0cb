import java.io.IOException;
import java.nio.file.Files;
import java.nio.file.Path;
import java.util.Set;
import java.util.TreeSet;

/** Runs the tests of edges, each of which is of one sentence of the document and names its promise. */
final class Edges {
    private final Check check;
    private final String doc;
    private final Set<Integer> tried = new TreeSet<>();

    Edges(Check check) {
        this.check = check;
        try {
            doc = Files.readString(Path.of("../shared/DOC.md"));
        } catch (IOException e) {
            throw new IllegalStateException(e);
        }
    }

    /** The sentence must stand in the promise itself or in what is said of all of them. */
    void of(int promise, String sentence, Check.Call test) {
        check.part("promise " + promise + ", \"" + sentence + "\"");
        check.is("the document says so", plain(sectionOf(promise)).contains(plain(sentence))
            || plain(doc.substring(0, doc.indexOf("## Promise 1:"))).contains(plain(sentence)), true);
        tried.add(promise);
        int before = check.answers();
        try {
            test.run();
        } catch (RuntimeException e) {
            check.complain("a call threw " + e);
        }
        check.is("something is tried", check.answers() > before, true);
    }

    void coverPromises(int first, int last) {
        check.part("promises with edges");
        for (int promise = first; promise <= last; promise++) {
            check.is("promise " + promise, tried.contains(promise), true);
        }
    }

    private String sectionOf(int promise) {
        int from = doc.indexOf("## Promise " + promise + ":");
        int to = doc.indexOf("\n## ", from);
        return doc.substring(from, to);
    }

    private static String plain(String text) {
        return text.replace("`", "").replaceAll("\\s+", " ").trim();
    }
}
