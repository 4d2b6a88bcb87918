import java.io.IOException;
import java.lang.reflect.Method;
import java.nio.file.DirectoryStream;
import java.nio.file.Files;
import java.nio.file.Path;
import java.util.regex.Matcher;
import java.util.regex.Pattern;

/** What README.md says of calls and their answers, of ERRORS, and of tests. Runs at the project's root. */
public final class ReadmeTest {
  private static final Due DUE = new Due("ReadmeTest");
  private static final String BEGIN = "BoardKeep keep = new BoardKeep();";
  private static final Pattern CALL = Pattern.compile("keep\\.(\\w+)\\(([^)]*)\\); +// (-?\\d+): .+");
  private static final Pattern ERROR = Pattern.compile("\\| (\\d) \\| ([A-Z]+) \\| (-\\d+) \\|");
  private static final String[] ERRORS = {"BEYOND", "NONE", "STATE", "FULL", "KIND", "PARTED"};

  public static void main(String[] args) throws IOException, ReflectiveOperationException {
    String readme = Files.readString(Path.of("README.md"));
    calls(readme);
    errors(readme);
    tests(readme);
    DUE.end();
  }

  private static void calls(String readme) throws ReflectiveOperationException {
    Matcher block = Pattern.compile("```java\n(?s:(.*?))```").matcher(readme);
    DUE.is("there is an example", 1, block.find() ? 1 : 0);
    BoardKeep keep = new BoardKeep();
    String[] lines = block.group(1).split("\n");
    DUE.is("it begins with " + BEGIN, 1, lines[0].equals(BEGIN) ? 1 : 0);
    for (int i = 1; i < lines.length; i++) {
      Matcher call = CALL.matcher(lines[i]);
      boolean isCall = call.matches();
      DUE.is("a call with its answer is: " + lines[i], 1, isCall ? 1 : 0);
      if (isCall) {
        DUE.is(lines[i], Long.parseLong(call.group(3)), answer(keep, call.group(1), call.group(2)));
      }
    }
    DUE.is("no other example", 0, block.find() ? 1 : 0);
  }

  private static long answer(BoardKeep keep, String name, String told) throws ReflectiveOperationException {
    for (Method method : BoardKeep.class.getMethods()) {
      if (method.getDeclaringClass() == BoardKeep.class && method.getName().equals(name)) {
        return ((Number) method.invoke(keep, given(method, told))).longValue();
      }
    }
    throw new NoSuchMethodException(name);
  }

  private static Object[] given(Method method, String told) {
    Class<?>[] types = method.getParameterTypes();
    Object[] given = new Object[types.length];
    String[] numbers = told.isEmpty() ? new String[0] : told.split(", ");
    DUE.is(method.getName() + "(" + told + "): how many numbers", types.length, numbers.length);
    for (int i = 0; i < types.length && i < numbers.length; i++) {
      if (types[i] == long.class) {
        given[i] = Long.decode(numbers[i].replace("L", ""));
      } else {
        given[i] = Integer.decode(numbers[i]);
      }
    }
    return given;
  }

  private static void errors(String readme) {
    Matcher row = ERROR.matcher(readme);
    for (int k = 1; k <= ERRORS.length; k++) {
      boolean isThere = row.find();
      DUE.is("a row for " + ERRORS[k - 1], 1, isThere ? 1 : 0);
      if (isThere) {
        DUE.is("k of " + row.group(), k, Long.parseLong(row.group(1)));
        DUE.is("the name in " + row.group(), 1, row.group(2).equals(ERRORS[k - 1]) ? 1 : 0);
        DUE.is("the answer in " + row.group(), Due.LOW - k, Long.parseLong(row.group(3)));
      }
    }
  }

  private static void tests(String readme) throws IOException {
    for (String glob : new String[] {"*Test.java", "*Edges.java"}) {
      try (DirectoryStream<Path> files = Files.newDirectoryStream(Path.of("src/test/java"), glob)) {
        for (Path file : files) {
          String name = file.getFileName().toString().replace(".java", "");
          DUE.is("it names " + name, 1, readme.contains("`" + name + "`") ? 1 : 0);
        }
      }
    }
  }
}
