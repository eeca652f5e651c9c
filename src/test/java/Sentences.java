import java.io.IOException;
import java.nio.file.Files;
import java.nio.file.Path;
import java.util.ArrayList;
import java.util.LinkedHashMap;
import java.util.List;
import java.util.Map;

/** Tests of single sentences: each one quotes its sentence, which has to stand in its section of the document. */
final class Sentences {
    private final Tally tally;
    private final Map<String, List<String>> linesLeft = new LinkedHashMap<>();
    private final Map<String, String> sections = new LinkedHashMap<>();
    private String section = "";

    Sentences(Tally tally, String path) throws IOException {
        this.tally = tally;
        String name = "";
        if (!Files.exists(Path.of(path))) {
            System.out.println("there is no " + path + ": what is promised is tested, but not where it is said");
            return;
        }
        for (String line : Files.readAllLines(Path.of(path))) {
            if (line.startsWith("#")) {
                name = line.replaceFirst("^#+ ", "").replaceFirst(":.*", "");
                linesLeft.put(name, new ArrayList<>());
                sections.put(name, "");
            } else if (!line.isBlank()) {
                linesLeft.computeIfAbsent(name, k -> new ArrayList<>()).add(line);
                sections.merge(name, line + "\n", String::concat);
            }
        }
    }

    void section(String name) {
        section = name;
        tally.is("the document has the section " + name, sections.isEmpty() || sections.containsKey(name), true);
    }

    /** A test that throws has failed, but the tests behind it are run all the same. */
    void of(String sentence, Runnable test) {
        String told = section + ": " + sentence;
        boolean said = sections.isEmpty() || sections.getOrDefault(section, "").contains(sentence);
        tally.is("the document says: " + told, said, true);
        linesLeft.getOrDefault(section, new ArrayList<>()).removeIf(line -> line.contains(sentence));
        int before = tally.passed() + tally.failed();
        int failedBefore = tally.failed();
        try {
            test.run();
        } catch (RuntimeException e) {
            tally.is("goes on to its end", e.toString(), "");
        }
        tally.is("something is tested of: " + told, tally.passed() + tally.failed() > before, true);
        if (tally.failed() > failedBefore) {
            System.out.println("    so this does not hold: " + told);
        }
    }

    /** Every line of the section, but those that begin so, has to have been quoted. */
    void allWereQuoted(String name, String... butThese) {
        for (String line : linesLeft.getOrDefault(name, List.of())) {
            boolean needsNone = false;
            for (String start : butThese) {
                needsNone |= line.startsWith(start);
            }
            tally.is("a test quotes of " + name + ": " + line, needsNone, true);
        }
    }
}
