import java.io.IOException;
import java.lang.reflect.InvocationTargetException;
import java.lang.reflect.Method;
import java.nio.file.Files;
import java.nio.file.Path;
import java.util.ArrayList;
import java.util.Arrays;
import java.util.Comparator;
import java.util.LinkedHashMap;
import java.util.List;
import java.util.Map;
import java.util.regex.Matcher;
import java.util.regex.Pattern;

/**
 * A test of its own for each sentence of the document, with all boundary cases that it names. Also looks whether each test's
 * sentence stands in the document, and whether the document has a sentence without a test. Runs at the project's root.
 */
public final class EdgeTest {
  private static final Class<?>[] EDGES = {
    ErrorEdges.class, LineEdges.class, TextEdges.class, DayEdges.class, RoomEdges.class, VoiceEdges.class, SheetEdges.class,
    KeepEdges.class};
  private static final Pattern SENTENCES = Pattern.compile("(?<!\\.)\\. [A-Z0-9]");
  // What of the document asks for nothing.
  private static final Pattern HEADINGS = Pattern.compile("^\\d\\. |^[\\w ]+ `[^`]+`:|\\bUSES:|\\bBODIES:");

  public static void main(String[] args) throws IOException {
    Edge.begin().watch();
    run(Path.of("../shared/DOC.md")).end();
  }

  static Due run(Path document) throws IOException {
    Due due = Edge.begin();
    Map<String, String> said = read(Files.readString(document));
    Map<String, boolean[]> tested = new LinkedHashMap<>();
    said.forEach((at, text) -> tested.put(at, new boolean[text.length()]));
    for (Method test : tests()) {
      Says says = test.getAnnotation(Says.class);
      String text = said.getOrDefault(says.at(), "");
      int from = text.indexOf(says.text());
      due.is(test.getName() + ": the document says at " + says.at() + ": " + says.text(), 1, from >= 0 ? 1 : 0);
      due.is(test.getName() + " is of one sentence", 0, SENTENCES.matcher(says.text()).find() ? 1 : 0);
      if (from >= 0) {
        Arrays.fill(tested.get(says.at()), from, from + says.text().length(), true);
      }
      go(due, test, says);
    }
    said.forEach((at, text) -> allTested(due, at, text, tested.get(at)));
    return due;
  }

  private static List<Method> tests() {
    List<Method> tests = new ArrayList<>();
    for (Class<?> edges : EDGES) {
      Method[] methods = edges.getDeclaredMethods();
      Arrays.sort(methods, Comparator.comparing(Method::getName));
      for (Method method : methods) {
        if (method.isAnnotationPresent(Says.class)) {
          tests.add(method);
        }
      }
    }
    return tests;
  }

  private static void go(Due due, Method test, Says says) {
    Edge.of(says.at() + " " + test.getName() + " (" + says.text() + ")");
    int before = due.asked();
    try {
      test.invoke(null);
    } catch (InvocationTargetException | IllegalAccessException thrown) {
      due.is(test.getName() + " threw " + thrown.getCause(), 0, 1);
    }
    due.is(test.getName() + " asks nothing", 1, due.asked() > before ? 1 : 0);
  }

  private static void allTested(Due due, String at, String text, boolean[] tested) {
    Matcher heading = HEADINGS.matcher(text);
    while (heading.find()) {
      Arrays.fill(tested, heading.start(), heading.end(), true);
    }
    StringBuilder left = new StringBuilder();
    for (int i = 0; i < tested.length; i++) {
      left.append(tested[i] ? ' ' : text.charAt(i));
    }
    String untested = left.toString().replaceAll("[^\\w]+", " ").trim();
    due.is(at + " has no test of: " + untested, 0, untested.length());
  }

  /** The document's text, by P1 .. P37 and T0 .. T4. */
  private static Map<String, String> read(String document) {
    Map<String, String> said = new LinkedHashMap<>();
    String terms = between(document, "\n## Terms\n", "\nAhead of the calls");
    int from = 0;
    for (int part = 0; part <= 4; part++) {
      int to = part == 4 ? terms.length() : terms.indexOf("\n" + (part + 1) + ". ");
      said.put("T" + part, plain(terms.substring(from, to)));
      from = to;
    }
    for (int promise = 1; promise <= 37; promise++) {
      String name = "\n## Promise " + promise + ":";
      said.put("P" + promise, plain(between(document, name, "\n## ")));
    }
    return said;
  }

  private static String between(String text, String before, String behind) {
    int from = text.indexOf(before) + before.length();
    return text.substring(from, text.indexOf(behind, from));
  }

  private static String plain(String text) {
    return text.replace("```text", " ").replace("```", " ").replaceAll("\\s+", " ").trim();
  }
}
