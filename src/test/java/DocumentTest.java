import java.io.IOException;
import java.nio.charset.StandardCharsets;
import java.nio.file.Files;
import java.nio.file.Path;
import java.util.ArrayList;
import java.util.List;

/**
 * The document sentence by sentence: runs the stories of src/test/stories/document.txt, whose first
 * lines tell how they are written, and looks that no sentence of ../shared/DOC.md is without one.
 */
public final class DocumentTest {
    private static final Check CHECK = new Check("DocumentTest");
    private static final Path STORIES = Path.of("src/test/stories/document.txt");
    private static final Path DOCUMENT = Path.of("../shared/DOC.md");

    private final List<String> sentences = new ArrayList<>();
    private String heading = "";
    private String sentence = "";
    private Story story;
    private int dues;

    public static void main(String[] args) throws IOException {
        DocumentTest test = new DocumentTest();
        test.runStories(lines(STORIES));
        test.lookAtDocument(sentencesOf(lines(DOCUMENT)));
        CHECK.end();
    }

    private static List<String> lines(Path file) throws IOException {
        return Files.readAllLines(file, StandardCharsets.UTF_8);
    }

    private void runStories(List<String> lines) {
        boolean begun = false;
        for (String line : lines) {
            begun = begun || line.startsWith("## ");
            if (begun && !line.isBlank()) {
                readLine(line);
            }
        }
        endSentence();
    }

    private void readLine(String line) {
        if (line.startsWith("#")) {
            endSentence();
            heading = line;
        } else if (line.startsWith("> ")) {
            endSentence();
            sentence = line.substring(2);
            sentences.add(heading + ": " + sentence);
            newStory("");
        } else if (line.startsWith("--")) {
            story.end();
            newStory(line.substring(2).trim());
        } else if (line.startsWith("(")) {
            dues++;
        } else {
            addCalls(line);
        }
    }

    private void newStory(String part) {
        String head = sentence.length() > 60 ? sentence.substring(0, 60) + ".." : sentence;
        story = new Story(CHECK, heading + ": " + head + (part.isEmpty() ? "" : " (" + part + ")"));
    }

    private void addCalls(String line) {
        dues += line.contains(") = ") || line.contains(") : ") ? 1 : 0;
        int dots = line.indexOf("..");
        if (dots < 0) {
            story.calls(line);
            return;
        }
        int space = line.indexOf(' ');
        int first = Integer.parseInt(line.substring(0, dots));
        int last = Integer.parseInt(line.substring(dots + 2, space));
        story.each(first, last, line.substring(space + 1));
    }

    private void endSentence() {
        if (sentence.isEmpty()) {
            return;
        }
        story.end();
        CHECK.due(heading + ": " + sentence + " has a story with an answer", true, dues > 0);
        sentence = "";
        dues = 0;
    }

    private void lookAtDocument(List<String> document) {
        for (int place = 0; place < Math.max(document.size(), sentences.size()); place++) {
            CHECK.due("the sentence " + place + " that has a story", at(document, place),
                    at(sentences, place));
        }
    }

    private static String at(List<String> list, int place) {
        return place < list.size() ? list.get(place) : "none";
    }

    private static List<String> sentencesOf(List<String> document) {
        List<String> found = new ArrayList<>();
        String heading = "";
        boolean inFace = false;
        for (String line : document) {
            if (line.startsWith("```")) {
                inFace = !inFace; // FaceTest looks at the face
            } else if (line.startsWith("#")) {
                heading = line;
            } else if (!inFace && !line.isBlank()) {
                for (String part : line.split("(?<=\\.) (?=[A-Z])")) {
                    found.add(heading + ": " + part);
                }
            }
        }
        return found;
    }
}
