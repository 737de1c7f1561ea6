import java.nio.charset.StandardCharsets;
import java.nio.file.Files;
import java.nio.file.Path;
import java.util.LinkedHashMap;
import java.util.Map;

/** The document, sentence by sentence: what no test has quoted yet is left over. */
abstract class Sentences extends Dues {
  /** By heading what is said there, with a # for each sentence that has its test. */
  private static final Map<String, StringBuilder> LEFT = new LinkedHashMap<>();
  private static String heading = "";

  /** Opens what stands under a heading of the document, from the words from on. */
  static void under(String title, String from) throws Exception {
    String document = Files.readString(Path.of("../shared/DOC.md"), StandardCharsets.UTF_8);
    StringBuilder said = new StringBuilder();
    boolean here = false;
    for (String line : document.split("\n")) {
      if (line.startsWith("## ")) {
        here = line.startsWith("## " + title);
      } else if (here && !line.startsWith("```") && !line.startsWith("Ahead of the calls")) {
        said.append(line).append(' ');
      }
    }
    String text = said.toString().replaceAll("\\s+", " ").replaceAll("`[^`]*`: ", "");
    heading = title;
    LEFT.put(title, new StringBuilder(text.substring(Math.max(0, text.indexOf(from)))));
  }

  static void promise(int number) throws Exception {
    under("Promise " + number + ":", "");
  }

  /** What stands behind this is the test of these words. */
  static void says(String words) {
    saying = "[" + heading + " " + words + "]";
    StringBuilder left = LEFT.get(heading);
    int at = left.indexOf(words);
    if (at < 0) {
      isWrong("is not what the document says");
    } else {
      left.replace(at, at + words.length(), "#");
    }
  }

  static void endOfSentences() {
    saying = "";
    for (Map.Entry<String, StringBuilder> left : LEFT.entrySet()) {
      if (left.getValue().chars().anyMatch(Character::isLetter)) {
        isWrong("no test of what is left under " + left.getKey() + " " + left.getValue());
      }
    }
    end();
  }
}
