import java.io.IOException;
import java.lang.reflect.Method;
import java.nio.file.DirectoryStream;
import java.nio.file.Files;
import java.nio.file.Path;
import java.util.BitSet;
import java.util.Map;
import java.util.TreeMap;
import java.util.regex.Matcher;
import java.util.regex.Pattern;

/** Each sentence of the terms and of the promises has a test of its own: what the tests say they hold is the document, all of it. */
public final class EdgeListTest {
    private static final Path DOCUMENT = Path.of("../shared/DOC.md");
    private static final int PROMISES = 39;
    private static final Map<Integer, String> SECTIONS = new TreeMap<>();
    private static final Map<Integer, BitSet> TESTED = new TreeMap<>();

    public static void main(String[] args) throws IOException, ClassNotFoundException {
        if (!Files.exists(DOCUMENT)) {
            System.out.println("the document is not here: nothing can be held against it");
            return;
        }
        readSections(Files.readString(DOCUMENT));
        try (DirectoryStream<Path> files = Files.newDirectoryStream(Path.of("src/test/java"), "Edge*Test.java")) {
            for (Path file : files) {
                takeSentences(Class.forName(file.getFileName().toString().replace(".java", "")));
            }
        }
        for (int promise = 0; promise <= PROMISES; promise++) {
            dueAllTested(promise);
        }
        Check.close();
    }

    /** The terms are section 0; headings, the terms' numbers and the signatures are no sentences. */
    private static void readSections(String document) {
        Matcher parts = Pattern.compile("(?s)## (Terms|Promise (\\d+)):?(.*?)(?=\\n## )").matcher(document);
        while (parts.find()) {
            int promise = parts.group(2) == null ? 0 : Integer.parseInt(parts.group(2));
            String text = parts.group(3).replace("```text", "").replace("```", "").replaceAll("==== \\d\\.", "");
            text = promise == 0 ? text : text.substring(text.indexOf("`: ") + 3);
            SECTIONS.put(promise, text.replaceAll("\\s+", " ").trim());
            TESTED.put(promise, new BitSet());
        }
        Check.due("the terms and the promises of the document", PROMISES + 1, SECTIONS.size());
    }

    private static void takeSentences(Class<?> tests) {
        for (Method method : Edges.of(tests)) {
            Says says = method.getAnnotation(Says.class);
            String section = SECTIONS.getOrDefault(says.of(), "");
            int place = section.indexOf(says.value());
            Check.due(tests.getName() + "." + method.getName() + " is of the document", true, place >= 0);
            while (place >= 0) {
                TESTED.get(says.of()).set(place, place + says.value().length());
                place = section.indexOf(says.value(), place + 1);
            }
        }
    }

    private static void dueAllTested(int promise) {
        String section = SECTIONS.getOrDefault(promise, "");
        Matcher words = Pattern.compile("[A-Za-z0-9']+").matcher(section);
        StringBuilder untested = new StringBuilder();
        while (words.find()) {
            if (TESTED.get(promise).nextClearBit(words.start()) < words.end()) {
                untested.append(words.group()).append(' ');
            }
        }
        Check.dueText("words without a test in section " + promise, "", untested.toString());
    }
}
