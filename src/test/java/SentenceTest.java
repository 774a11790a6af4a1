import java.io.IOException;
import java.nio.file.Files;
import java.nio.file.Path;
import java.util.Map;

/**
 * Every sentence of the document with the cases at its boundaries. At the end the sentences that were
 * named are laid over the document: none of its words from the terms on may be left over.
 */
public final class SentenceTest {
    private static final Path DOCUMENT = Path.of("../shared/DOC.md");

    public static void main(String[] args) throws IOException {
        TextBoundaries.run();
        PartBoundaries.run();
        ElementBoundaries.run();
        RuleBoundaries.run();
        StyleBoundaries.run();
        PlainFormBoundaries.run();
        ReadBoundaries.run();
        CostBoundaries.run();
        ApplyBoundaries.run();
        EmitBoundaries.run();
        ThrowBoundaries.run();
        allNamed();
        Check.finish("SentenceTest");
    }

    private static void allNamed() throws IOException {
        Map<String, Integer> said = Check.said();
        String document = Files.readString(DOCUMENT);
        String left = words(document);
        for (Map.Entry<String, Integer> one : said.entrySet()) {
            Check.due("the document has: " + one.getKey(), words(document).contains(one.getKey()), true);
            Check.due("there are cases for: " + one.getKey(), one.getValue() > 0, true);
            left = left.replace(one.getKey(), "|");
        }
        left = left.replaceAll("[ |]*\\|[ |]*", "|");
        Check.due("what no test names", left, "|");
    }

    /** What the document says, without headings, signatures and what is behind the last promise. */
    private static String words(String document) {
        String face = document.replaceAll("(?s)```.*?```", "");
        String promises = face.substring(face.indexOf("An object is used"), face.indexOf("## Not promised"));
        String sentences = promises.replaceAll("(?m)^##.*$", "").replaceAll("(?m)^`[^`]*`: ", "");
        return sentences.replaceAll("\\s+", " ");
    }
}
