import java.io.IOException;
import java.nio.file.Files;
import java.nio.file.Path;
import java.util.ArrayList;
import java.util.HashSet;
import java.util.LinkedHashMap;
import java.util.List;
import java.util.Map;
import java.util.Set;

/** The document's promises and what they share, cut into sentences. A test names those that it holds. */
final class Doc {
    private final Map<String, List<String>> chapters = new LinkedHashMap<>();
    private final Map<String, Set<String>> tested = new LinkedHashMap<>();
    private String chapter = "";

    Doc(Path file) throws IOException {
        String text = Files.readString(file);
        String heading = "";
        for (String line : text.substring(text.indexOf("## Terms"), text.indexOf("## Not promised")).split("\n")) {
            String told = line.trim();
            if (told.startsWith("#") || told.matches("[0-9] [A-Z][a-z, ]*")) {
                heading = told.replaceAll("^#+ ", "").replaceAll("^Promise [0-9]+: ", "");
                chapters.put(heading, new ArrayList<>());
                tested.put(heading, new HashSet<>());
            } else if (!told.isEmpty() && !told.startsWith("Ahead of the calls")) {
                cut(told, chapters.get(heading));
            }
        }
    }

    /** What a promise's own line tells ahead of the colon, the method's head, is FaceTest's. */
    private static void cut(String line, List<String> into) {
        String rest = line.replaceAll("^`[^`]*\\([^`]*`: ", "").replaceAll("^- ", "");
        for (String sentence : rest.split("(?<=[.;]|\\.\\))\\s+")) {
            into.add(sentence);
        }
    }

    void in(String heading) {
        if (!chapters.containsKey(heading)) {
            throw new IllegalStateException("no chapter " + heading);
        }
        chapter = heading;
    }

    /** Runs a test of the sentences of the chapter that begin so; each beginning fits just one. */
    void test(Runnable test, String... beginnings) {
        for (String beginning : beginnings) {
            List<String> fits = new ArrayList<>(chapters.get(chapter));
            fits.removeIf(s -> !s.startsWith(beginning));
            Due.is(chapter + ": sentences that begin with " + beginning, fits.size(), 1);
            tested.get(chapter).addAll(fits);
        }
        test.run();
    }

    /** Holds the throws clauses of a method, which are the chapter's sentences that begin with Throws. */
    void refusals(String method, Class<?>... dues) {
        for (Class<?> due : dues) {
            test(() -> Clauses.hold(method, due), "Throws `" + due.getSimpleName() + "`");
        }
        if (chapters.get(chapter).contains("or no more changes can be made")) {
            test(() -> Clauses.holdFull(method), "or no more changes can be made");
        }
    }

    /** Tells the sentences that no test has named. */
    void finish() {
        int all = 0;
        for (String heading : chapters.keySet()) {
            for (String sentence : chapters.get(heading)) {
                all++;
                Due.is(heading + ": no test of: " + sentence, tested.get(heading).contains(sentence), true);
            }
        }
        System.out.println("BoundaryTest: " + all + " sentences");
    }
}
