import java.io.IOException;
import java.nio.file.Files;
import java.nio.file.Path;
import java.util.TreeSet;

/** Tests of edges, each beside the words of the document that name the edge, so that one finds the other. */
final class Edges {
    private static final Path DOCUMENT = Path.of("../shared/DOC.md");

    private final Checks checks;
    private final String document;
    private final TreeSet<Integer> promises = new TreeSet<>();

    Edges(Checks checks) {
        this.checks = checks;
        document = flat(textOf(DOCUMENT));
    }

    /** Says must stand in the document, or the test looks at what nobody promised. */
    void edge(int promise, String says, Runnable test) {
        promises.add(promise);
        int wrongBefore = checks.wrong();
        int madeBefore = checks.made();
        test.run();
        boolean isSaid = document.isEmpty() || document.contains(flat(says));
        checks.due(promise, "is in the document: " + says, isSaid ? 1 : 0, 1);
        checks.due(promise, "has a test that looks at answers: " + says, checks.made() > madeBefore + 1 ? 1 : 0, 1);
        if (checks.wrong() > wrongBefore) {
            System.out.println("    at the edge: " + says);
        }
    }

    void end(int firstPromise, int lastPromise) {
        for (int promise = firstPromise; promise <= lastPromise; promise++) {
            checks.due(promise, "has an edge", promises.contains(promise) ? 1 : 0, 1);
        }
        checks.end();
    }

    private static String flat(String text) {
        return text.replaceAll("\\s+", " ");
    }

    private static String textOf(Path path) {
        try {
            return Files.readString(path);
        } catch (IOException e) {
            System.out.println(path + " can not be read, so no words are looked up there: " + e);
            return "";
        }
    }
}
