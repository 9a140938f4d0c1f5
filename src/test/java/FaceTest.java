import java.lang.reflect.Constructor;
import java.lang.reflect.Field;
import java.lang.reflect.Member;
import java.lang.reflect.Method;
import java.lang.reflect.Modifier;
import java.nio.file.Files;
import java.nio.file.Path;
import java.util.Set;
import java.util.TreeSet;
import java.util.regex.Matcher;
import java.util.regex.Pattern;

/** The face is the document's, and nothing else of the class can be seen: rules 1, 5 and 11 of the language, and what rules 2, 6 and 10 rule out. */
public final class FaceTest {
  private static int wrong = 0;

  private static void due(boolean is, String what) {
    if (is) return;
    wrong++;
    System.out.println("FaceTest: " + what);
  }

  public static void main(String[] args) throws Exception {
    String doc = Files.readString(Path.of("../shared/DOC.md"));
    String face = doc.substring(doc.indexOf("public final class Calendarhall {"), doc.indexOf("## Terms"));
    Set<String> want = new TreeSet<>();
    Set<String> names = new TreeSet<>();
    Matcher m = Pattern.compile("public (\\w+) (\\w+)\\(([^)]*)\\)([^;]*);").matcher(face);
    while (m.find()) {
      String types = m.group(3).replaceAll("(\\w+) \\w+", "$1").replace(" ", "");
      want.add(m.group(1) + " " + m.group(2) + "(" + types + ")" + m.group(4).replace(" throws ", " ").replace(", ", " "));
      names.add(m.group(2));
    }
    due(want.size() == 64, "the document's face is read wrongly: " + want.size() + " methods");
    Set<String> got = new TreeSet<>();
    for (Method x : Calendarhall.class.getDeclaredMethods()) {
      if (Modifier.isPublic(x.getModifiers())) got.add(told(x));
      else due(Modifier.isPrivate(x.getModifiers()), "to be seen: " + x);
      if (!Modifier.isPublic(x.getModifiers())) due(!names.contains(x.getName()), "bears the name of a public one: " + x);
    }
    for (String x : want) due(got.contains(x), "missing: " + x);
    for (String x : got) due(want.contains(x), "not of the face: " + x);
    due(Modifier.isFinal(Calendarhall.class.getModifiers()), "the class is not final");
    Constructor<?>[] made = Calendarhall.class.getDeclaredConstructors();
    due(made.length == 1 && Modifier.isPublic(made[0].getModifiers()) && made[0].getParameterCount() == 0, "constructors");
    constants();
    inside(names);
    source();
    System.out.println("FaceTest: " + wrong + " wrong");
    if (wrong > 0) System.exit(1);
  }

  private static String told(Method x) {
    StringBuilder out = new StringBuilder(x.getReturnType().getName() + " " + x.getName() + "(");
    for (Class<?> type : x.getParameterTypes()) out.append(out.charAt(out.length() - 1) == '(' ? "" : ",").append(type.getName());
    out.append(")");
    for (Class<?> e : x.getExceptionTypes()) out.append(" ").append(e.getSimpleName());
    return out.toString();
  }

  private static void constants() throws Exception {
    String[] names = {"NONE", "ONCE", "DAYS", "WEEKS", "MONTHS", "SETS", "YEARS", "NOT_YET", "YES", "NO", "MAYBE"};
    int[] values = {-1, 0, 1, 2, 3, 4, 5, 0, 1, 2, 3};
    for (int k = 0; k < names.length; k++) {
      Field f = Calendarhall.class.getField(names[k]);
      due(f.getInt(null) == values[k] && f.getType() == int.class && Modifier.isFinal(f.getModifiers()), names[k]);
    }
    due(Calendarhall.class.getFields().length == names.length, "more public fields");
  }

  private static void inside(Set<String> names) {
    Class<?>[] all = Calendarhall.class.getDeclaredClasses();
    due(all.length + 1 <= 12, "more than twelve classes");
    for (Field f : Calendarhall.class.getDeclaredFields()) dueField(f, Modifier.isPublic(f.getModifiers()));
    for (Class<?> c : all) {
      due(!hasSight(c.getModifiers()) && Modifier.isStatic(c.getModifiers()), "class " + c);
      int fields = 0;
      for (Field f : c.getDeclaredFields()) {
        dueField(f, true);
        if (!Modifier.isStatic(f.getModifiers())) fields++;
      }
      due(fields <= 20, "too many fields: " + c);
      for (Method x : c.getDeclaredMethods()) due(!names.contains(x.getName()) && !hasSight(x.getModifiers()), "inside: " + x);
      for (Method x : c.getDeclaredMethods()) due(x.getParameterCount() <= 7, "parameters: " + x);
    }
  }

  private static boolean hasSight(int modifiers) {
    return Modifier.isPublic(modifiers) || Modifier.isProtected(modifiers);
  }

  private static void dueField(Field f, boolean maySee) {
    int mods = ((Member) f).getModifiers();
    due(maySee || Modifier.isPrivate(mods), "to be seen: " + f);
    due(!Modifier.isStatic(mods) || Modifier.isFinal(mods), "static, but not final: " + f);
  }

  private static void source() throws Exception {
    String text = Files.readString(Path.of("src/main/java/Calendarhall.java"));
    String bare = text.replaceAll("(?s)/\\*.*?\\*/", "").replaceAll("//[^\n]*", "").replaceAll("\"[^\"\n]*\"", "\"\"");
    String[] out = {"->", "::", "\\bsynchronized\\b", "\\bassert\\b", "\\bfinally\\b", "\\bcatch\\b", "\"\"\\s*\\+", "\\+\\s*\"\"", "Exact\\(", "\\bObject\\b", "\\bstatic\\s*\\{"};
    for (String o : out) due(!Pattern.compile(o).matcher(bare).find(), "the source has " + o);
    Matcher imports = Pattern.compile("import [^;]*;").matcher(bare);
    while (imports.find()) due(imports.group().equals("import java.util.NoSuchElementException;"), imports.group());
    int lines = 0;
    for (String line : text.split("\n")) {
      if (line.matches("( {2}| {4})}")) due(lines <= 60 || line.startsWith("  }"), "a method is too long");
      lines = line.isBlank() ? 0 : lines + 1;
    }
    due(text.chars().allMatch(c -> c > 0 && c < 127), "signs above 126");
  }
}
