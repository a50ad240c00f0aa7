import java.io.IOException;
import java.nio.charset.StandardCharsets;
import java.nio.file.Files;
import java.nio.file.Path;
import java.util.ArrayList;
import java.util.List;

/** ../shared/DOC.md by its promises, and which of its words a test was told to hold. */
final class Document {
    private final List<String> texts = new ArrayList<>();
    private final List<boolean[]> told = new ArrayList<>();

    Document(Path path) throws IOException {
        String all = Files.readString(path, StandardCharsets.UTF_8);
        String[] promises = all.substring(0, all.indexOf("\n## Not promised")).split("\n## Promise \\d+: ");
        for (int i = 0; i < promises.length; i++) {
            // a promise begins with its name and its call's form, which name no boundary
            String text = i == 0 ? promises[0] : promises[i].substring(promises[i].indexOf("`: ") + 3);
            texts.add(oneLine(text));
            told.add(new boolean[texts.get(i).length()]);
        }
        passOver("======== 2 ");
        passOver("======== 3 ");
    }

    private static String oneLine(String text) {
        StringBuilder lines = new StringBuilder();
        for (String line : text.split("\n")) {
            if (!line.startsWith("```") && !line.startsWith("Ahead of the call")) {
                lines.append(line).append(' ');
            }
        }
        return lines.toString().replaceAll("\\s+", " ").trim();
    }

    private void passOver(String mark) {
        int at = texts.get(0).lastIndexOf(mark);
        for (int i = at; at >= 0 && i < at + mark.length(); i++) {
            told.get(0)[i] = true;
        }
    }

    /** Whether these words stand there; if so they are told from now on. */
    boolean tells(int promise, String words) {
        if (promise < 0 || promise >= texts.size()) {
            return false;
        }
        String text = texts.get(promise);
        int at = text.indexOf(words);
        boolean found = at >= 0;
        while (at >= 0) {
            for (int i = at; i < at + words.length(); i++) {
                told.get(promise)[i] = true;
            }
            at = text.indexOf(words, at + 1);
        }
        return found;
    }

    /** The words, from the terms on, that no test was told to hold. */
    List<String> untold() {
        List<String> left = new ArrayList<>();
        for (int promise = 0; promise < texts.size(); promise++) {
            String text = texts.get(promise);
            int begin = promise == 0 ? text.indexOf("## Terms") + "## Terms".length() : 0;
            StringBuilder words = new StringBuilder();
            for (int i = begin; i <= text.length(); i++) {
                if (i < text.length() && !told.get(promise)[i]) {
                    words.append(text.charAt(i));
                } else {
                    addIfWords(left, promise, words.toString());
                    words.setLength(0);
                }
            }
        }
        return left;
    }

    private static void addIfWords(List<String> left, int promise, String words) {
        if (words.chars().anyMatch(Character::isLetterOrDigit)) {
            left.add("promise " + promise + ", \"" + words.trim() + "\"");
        }
    }
}
