import java.lang.management.ManagementFactory;
import java.lang.reflect.Field;
import java.lang.reflect.Method;
import java.lang.reflect.Modifier;
import java.nio.charset.StandardCharsets;
import java.nio.file.Files;
import java.nio.file.Path;
import java.util.Arrays;
import java.util.Set;
import java.util.TreeSet;
import java.util.regex.Matcher;
import java.util.regex.Pattern;

/** What of LANGUAGE.md can be seen in the source, by reflection, and while it runs. */
public final class RulesTest {
  private static int wrong = 0;

  private static void must(String what, boolean holds) {
    if (!holds) {
      wrong++;
      System.out.println("not so: " + what);
    }
  }

  public static void main(String[] args) throws Exception {
    String source =
        Files.readString(Path.of("src/main/java/BreadSpans.java"), StandardCharsets.ISO_8859_1);
    face();
    inside();
    words(bare(source));
    lengths(bare(source));
    must("signs of 1 to 127", source.chars().allMatch(c -> c >= 1 && c <= 127));
    room();
    System.out.println(wrong == 0 ? "the rules that can be seen are kept" : wrong + " are not kept");
    if (wrong != 0) {
      System.exit(1);
    }
  }

  /** Rule 1: the document's face and nothing more. */
  private static void face() throws Exception {
    String face = Files.readString(Path.of("../shared/DOC.md"));
    Set<String> due = new TreeSet<>();
    Matcher m = Pattern.compile("(?m)^    public int (\\w+)\\((.*)\\);$").matcher(face);
    while (m.find()) {
      due.add(m.group(1) + "(" + m.group(2).replaceAll("(int|long) \\w+", "$1").replace(" ", "") + ")");
    }
    Set<String> is = new TreeSet<>();
    Set<String> hidden = new TreeSet<>();
    for (Method method : BreadSpans.class.getDeclaredMethods()) {
      if (Modifier.isPublic(method.getModifiers())) {
        String types = Arrays.toString(method.getParameterTypes()).replaceAll("[\\[\\] ]", "");
        is.add(method.getName() + "(" + types + ")");
        must(method + " answers an int", method.getReturnType() == int.class);
        must(method + " isn't static", !Modifier.isStatic(method.getModifiers()));
      } else {
        must(method + " is private", Modifier.isPrivate(method.getModifiers()));
        hidden.add(method.getName());
      }
    }
    must("the document has a face", !due.isEmpty());
    must("the face is the document's: " + is, is.equals(due));
    for (String name : hidden) {
      must("no private method named " + name, is.stream().noneMatch(s -> s.startsWith(name + "(")));
    }
    for (Field field : BreadSpans.class.getDeclaredFields()) {
      must(field + " is private", Modifier.isPrivate(field.getModifiers()));
    }
    must("final", Modifier.isFinal(BreadSpans.class.getModifiers()));
    must("one constructor", BreadSpans.class.getConstructors().length == 1);
  }

  /** Rules 2, 5 and 11: the classes inside. */
  private static void inside() {
    must("some twelve classes", BreadSpans.class.getDeclaredClasses().length <= 11);
    fields(BreadSpans.class);
    for (Class<?> c : BreadSpans.class.getDeclaredClasses()) {
      must(c + " is static", Modifier.isStatic(c.getModifiers()));
      must(c + " is hidden", !Modifier.isPublic(c.getModifiers()));
      fields(c);
      for (Method method : c.getDeclaredMethods()) {
        must(method + " has no name of the face", Arrays.stream(BreadSpans.class.getMethods())
            .noneMatch(m -> m.getName().equals(method.getName())));
        must(method + " takes at most seven", method.getParameterCount() <= 7);
      }
    }
  }

  private static void fields(Class<?> c) {
    int own = 0;
    for (Field field : c.getDeclaredFields()) {
      if (Modifier.isStatic(field.getModifiers())) {
        must(field + " is final", Modifier.isFinal(field.getModifiers()));
      } else {
        own++;
      }
    }
    must(c + " has some twenty fields", own <= 20);
  }

  /** The source without comments, texts and signs. */
  private static String bare(String source) {
    return source.replaceAll("(?s)/\\*.*?\\*/", "").replaceAll("//[^\n]*", "")
        .replaceAll("'(\\\\.|[^'])'", "0").replaceAll("\"[^\"\n]*\"", "TEXT");
  }

  private static void words(String bare) {
    String[] never = {
      "throw", "throws", "try", "catch", "finally", "synchronized", "assert", "import", "package",
      "instanceof", "equals", "hashCode", "toString", "Exact", "double", "float", "Random", "System.out",
      "nanoTime", "currentTimeMillis", "Thread", "->", "::"
    };
    for (String word : never) {
      Pattern p = Pattern.compile(Character.isLetter(word.charAt(0)) ? "\\b" + word + "\\b" : word);
      must("without " + word, !p.matcher(bare).find());
    }
    must("no text joined by +", !bare.contains("TEXT +") && !bare.contains("+ TEXT"));
  }

  /** Rule 11: methods of some sixty lines. */
  private static void lengths(String bare) {
    int start = -1;
    String[] lines = bare.split("\n");
    for (int i = 0; i < lines.length; i++) {
      boolean opens = lines[i].matches("^(  |    )(?! ).*\\) \\{$");
      boolean closes = lines[i].matches("^(  |    )\\}$");
      if (opens && start < 0) {
        start = i;
      } else if (closes && start >= 0) {
        must("a method of " + (i - start) + " lines at " + lines[start], i - start <= 60);
        start = -1;
      }
    }
  }

  /** All calls of a run live in one room: only constructors fill it. */
  private static void room() {
    com.sun.management.ThreadMXBean threads =
        (com.sun.management.ThreadMXBean) ManagementFactory.getThreadMXBean();
    long id = Thread.currentThread().getId();
    allCalls(new BreadSpans());
    threads.getThreadAllocatedBytes(id);
    long before = threads.getThreadAllocatedBytes(id);
    BreadSpans x = new BreadSpans();
    long made = threads.getThreadAllocatedBytes(id) - before;
    before = threads.getThreadAllocatedBytes(id);
    for (int i = 0; i < 5; i++) {
      allCalls(x);
    }
    long more = threads.getThreadAllocatedBytes(id) - before;
    must("an object is small: " + made + " bytes", made < 16384);
    must("calls make nothing: " + more + " bytes", more < 1024);
  }

  private static void allCalls(BreadSpans x) {
    for (int i = 0; i < 9; i++) {
      x.span(7 * i, i % 8, (i + 1) % 8);
    }
    x.feed(0x297728212B722A33L, 8);
    x.text(0);
    x.feed(0x2928L, 2);
    x.text(1);
    x.untell(1);
    x.law(0, 1, 2, 3);
    x.days(1);
    x.loose(3);
    x.seed(1);
    x.bakes(1);
    x.cross(1, 1);
    x.eat(8);
    x.soak(0, 1);
    x.store(0, 100);
    x.become(0, 1);
    x.as(0, 0);
    x.spanIs(0, 7);
    x.joined(0, 1);
    x.load(0, 1);
    x.baking(0, 4, 20, 0);
    x.eating(0, 4, 1, 0);
    x.lasts(0, 4, 1);
    x.then(0, 60);
    x.odds(0, 4, 1, 0);
    x.sheet(0, 8, 24);
    x.put(0, 0, 1);
    x.move(0, 0, 0, 1, 4);
    x.fits(0);
    x.soaks(0);
    x.judge(0);
    for (int voice = 0; voice < 4; voice++) {
      x.voice(4, voice, 1);
    }
    x.body(0);
    x.image();
    x.restore();
    x.tell(1);
    x.check();
    x.count(0);
    x.told(1);
  }
}
