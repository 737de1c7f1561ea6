import java.lang.reflect.Method;
import java.lang.reflect.Modifier;
import java.nio.charset.StandardCharsets;
import java.nio.file.Files;
import java.nio.file.Path;
import java.util.ArrayList;
import java.util.List;

/** What README.md shows of the class is so. */
public final class ReadmeTest extends Dues {
  private static final List<String> SHOWN = new ArrayList<>();

  public static void main(String[] args) throws Exception {
    String readme = Files.readString(Path.of("README.md"), StandardCharsets.UTF_8);
    for (String line : readme.split("\n")) {
      if (line.startsWith("delta.")) {
        SHOWN.add(line);
      }
    }
    run();
    due("lines shown that no test ran", SHOWN.size(), 0);
    listed(readme);
    any();
    end();
  }

  private static void run() {
    BreadSpans delta = new BreadSpans();
    shown("delta.span(5, 0, 1);", delta.span(5, 0, 1));
    shown("delta.span(13, 1, 2);", delta.span(13, 1, 2));
    shown("delta.load(0, 2);", delta.load(0, 2));
    shown("delta.cross(0, 25);", delta.cross(0, 25));
    shown("delta.feed('r' | '-' << 8 | 'w' << 16, 3);", delta.feed('r' | '-' << 8 | 'w' << 16, 3));
    shown("delta.text(0);", delta.text(0));
    shown("delta.days(3);", delta.days(3));
    shown("delta.load(0, 2);", delta.load(0, 2));
    shown("delta.lasts(0, 2, 10);", delta.lasts(0, 2, 10));
    shown("delta.baking(0, 2, 25, 0);", delta.baking(0, 2, 25, 0));
    shown("delta.baking(0, 2, 25, 1);", delta.baking(0, 2, 25, 1));
    shown("delta.span(5, 3, 3);", delta.span(5, 3, 3));
    shown("delta.told(1);", delta.told(1));
  }

  /** The next line shown is this call, and its answer stands behind the // there. */
  private static void shown(String call, int answer) {
    String line = SHOWN.isEmpty() ? "nothing" : SHOWN.remove(0);
    if (!line.replaceAll(" +", " ").startsWith(call + " // " + answer + ": ")) {
      isWrong(call + " answers " + answer + ", README.md shows: " + line);
    }
  }

  private static void listed(String readme) {
    for (Method method : BreadSpans.class.getDeclaredMethods()) {
      boolean face = Modifier.isPublic(method.getModifiers());
      if (face && !readme.contains("`" + method.getName() + "`")) {
        isWrong("README.md doesn't list " + method.getName());
      }
    }
  }

  /** Answers that look like an ERROR and are none. */
  private static void any() {
    BreadSpans x = withSpans(0, 0, 1);
    due("seed", x.seed(BEYOND), 1);
    due("count(9)", x.count(9), BEYOND);
    due("seed again", x.seed(1), BEYOND);
    due("voice", x.voice(0, 0, BEYOND), BEYOND);
    due("told(1)", x.told(1), 0);
  }
}
