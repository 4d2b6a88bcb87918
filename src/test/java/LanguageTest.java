import java.io.IOException;
import java.lang.reflect.Field;
import java.lang.reflect.Method;
import java.lang.reflect.Modifier;
import java.nio.file.Files;
import java.nio.file.Path;
import java.util.Arrays;
import java.util.HashSet;
import java.util.Set;
import java.util.regex.Matcher;
import java.util.regex.Pattern;

/** Those rules of LANGUAGE.md that can be seen in the program's text, or of its classes. Runs at the project's root. */
public final class LanguageTest {
  private static final Due DUE = new Due("LanguageTest");
  private static final String[] FACE = {
    "int write(int,int,int,int)", "int lineIs(int,int)", "int become(int,int)", "int as(int,int)", "int photo(int,int)", "int wipe(int)",
    "int pen(int,int)", "int spirit(int)", "int feed(long,int)", "int text(int)", "int untell(int)", "int law(int,int,int,int)",
    "int days(int)", "int loose(int)", "int seed(int)", "int free(int)", "int of(int)", "int room(int,int)", "int when(int,int)",
    "int clears(int)", "int parts(int)", "long odds(int,int)", "int fits(int)", "int voice(int,int,int)", "int body(int)",
    "int sheet(int,int,int)", "int put(int,int,int)", "int move(int,int,int,int,int)", "int dates(int)", "int judge(int)", "int image()",
    "int restore()", "int tell(int)", "int check()", "int count(int)", "int told(int)"};

  public static void main(String[] args) throws IOException {
    face();
    classes();
    text(Files.readString(Path.of("src/main/java/BoardKeep.java")));
    DUE.end();
  }

  private static void face() {
    Set<String> due = new HashSet<>(Arrays.asList(FACE));
    for (Method method : BoardKeep.class.getDeclaredMethods()) {
      String told = told(method);
      boolean isDue = due.remove(told);
      DUE.is("rule 1: public is " + told, isDue ? 1 : 0, Modifier.isPublic(method.getModifiers()) ? 1 : 0);
      DUE.is("rule 1: else private is " + told, isDue ? 0 : 1, Modifier.isPrivate(method.getModifiers()) ? 1 : 0);
    }
    DUE.is("rule 1: missing of the face: " + due, 0, due.size());
    int classIs = BoardKeep.class.getModifiers();
    DUE.is("rule 1: public and final", 1, Modifier.isPublic(classIs) && Modifier.isFinal(classIs) ? 1 : 0);
    DUE.is("rule 1: constructors", 1, BoardKeep.class.getDeclaredConstructors().length);
  }

  private static String told(Method method) {
    StringBuilder told = new StringBuilder(method.getReturnType() + " " + method.getName() + "(");
    for (Class<?> type : method.getParameterTypes()) {
      told.append(told.charAt(told.length() - 1) == '(' ? "" : ",").append(type.getSimpleName());
    }
    return told.append(")").toString();
  }

  private static void classes() {
    Set<String> names = new HashSet<>();
    for (String told : FACE) {
      names.add(told.substring(told.indexOf(' ') + 1, told.indexOf('(')));
    }
    Class<?>[] inside = BoardKeep.class.getDeclaredClasses();
    DUE.is("rule 11: at most some twelve classes", 1, inside.length < 12 ? 1 : 0);
    members(BoardKeep.class);
    for (Class<?> one : inside) {
      DUE.is("rule 1: static is " + one, 1, Modifier.isStatic(one.getModifiers()) ? 1 : 0);
      members(one);
      for (Method method : one.getDeclaredMethods()) {
        DUE.is("rule 1: a name of the face has " + method, 0, names.contains(method.getName()) ? 1 : 0);
      }
    }
  }

  private static void members(Class<?> one) {
    int fields = 0;
    for (Field field : one.getDeclaredFields()) {
      int is = field.getModifiers();
      DUE.is("rule 1: private is " + field, 1, Modifier.isPrivate(is) ? 1 : 0);
      DUE.is("rule 5: final, if static, is " + field, 1, !Modifier.isStatic(is) || Modifier.isFinal(is) ? 1 : 0);
      fields += Modifier.isStatic(is) ? 0 : 1;
    }
    DUE.is("rule 11: some twenty fields has " + one, 1, fields <= 20 ? 1 : 0);
    for (Method method : one.getDeclaredMethods()) {
      DUE.is("rule 11: seven parameters has " + method, 1, method.getParameterCount() <= 7 ? 1 : 0);
    }
  }

  private static void text(String source) {
    String code = source.replaceAll("/\\*(?s:.*?)\\*/", " ").replaceAll("//[^\n]*", " ");
    String[] unwanted = {
      "\\bimport\\b", "\\bpackage\\b", "\\bthrows?\\b", "\\btry\\b", "\\bcatch\\b", "\\bfinally\\b", "\\bsynchronized\\b", "\\bassert\\b",
      "->", "::", "\\bstatic\\s*\\{", "\\bwhile\\s*\\(\\s*true", "\\bfor\\s*\\(\\s*;", "\\bObject\\b", "\\bdouble\\b", "\\bfloat\\b",
      "\\bSystem\\.(?!arraycopy\\b)", "Exact\\b", "\\bThread\\b", "\\bequals\\b", "\\bhashCode\\b", "\\btoString\\b", "[^\\x00-\\x7f]"};
    for (String sign : unwanted) {
      Matcher found = Pattern.compile(sign).matcher(code);
      DUE.is("rules 4 to 9: " + sign, 0, found.find() ? 1 : 0);
    }
    // Objects are made with the object itself alone, so that no call costs any of the room.
    Matcher made = Pattern.compile("\\n {4,}[^\\n]*\\bnew\\b[^\\n]*").matcher(code);
    while (made.find()) {
      String line = made.group().trim();
      boolean once = line.startsWith("private final") || line.startsWith("sheets[i] =") || line.startsWith("lines[i] =")
          || line.startsWith("cells =");
      DUE.is("rule 12: made in a constructor is " + line, 1, once ? 1 : 0);
    }
  }
}
