import java.nio.file.Files;
import java.nio.file.Path;
import java.util.ArrayList;
import java.util.List;

/**
 * Every sentence of the document's terms and promises has a test of its own, which holds; and no word of them
 * is left that no test quotes.
 */
public final class SentenceTest {
    private static final Path DOCUMENT = Path.of("../shared/DOC.md");

    private SentenceTest() {
    }

    static List<Sentence> all() {
        List<Sentence> all = new ArrayList<>();
        all.addAll(TermSentences.all());
        all.addAll(MoveSentences.all());
        all.addAll(ErrorSentences.all());
        all.addAll(EntrySentences.all());
        all.addAll(WholeSentences.all());
        return all;
    }

    /** Called from outside with a class that was broken: whether the sentence's test sees nothing wrong. */
    public static boolean holds(String id) {
        for (Sentence s : all()) {
            if (s.id().equals(id)) {
                return s.wrongAnswers(true) == 0;
            }
        }
        throw new IllegalArgumentException("no such sentence: " + id);
    }

    public static void main(String[] args) throws Exception {
        Check check = new Check();
        List<Sentence> all = all();
        for (Sentence s : all) {
            check.is(s.id() + ": wrong answers", 0, s.wrongAnswers(false));
        }
        String[] sections = Files.readString(DOCUMENT).split("(?m)^## ");
        for (Sentence s : all) {
            check.yes(s.id() + " stands in the document", sectionOf(sections, s.place()).contains(s.words()));
        }
        wordsLeft(check, sections, all, "Terms");
        for (int n = 1; n <= 27; n++) {
            wordsLeft(check, sections, all, "Promise " + n);
        }
        System.out.println(all.size() + " sentences");
        check.end();
    }

    /** The section's text without its heading, its signature, and the lines that only group the calls. */
    private static String sectionOf(String[] sections, String place) {
        for (String section : sections) {
            if (section.startsWith(place + "\n") || section.startsWith(place + ":")) {
                String text = section.substring(section.indexOf('\n'));
                return text.replaceAll("(?m)^Ahead of the calls .*$", "").replaceAll("(?m)^`[^`]*`: ", "");
            }
        }
        return "";
    }

    private static void wordsLeft(Check check, String[] sections, List<Sentence> all, String place) {
        String left = sectionOf(sections, place);
        check.yes(place + " is in the document", !left.isBlank());
        for (Sentence s : all) {
            if (s.place().equals(place)) {
                left = left.replace(s.words(), " ");
            }
        }
        check.judge("words of " + place + " that no test quotes", left.replaceAll("[\\s:;,.]+", " ").trim(), "");
    }
}
