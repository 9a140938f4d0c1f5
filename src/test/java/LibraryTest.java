import java.io.DataInputStream;
import java.io.IOException;
import java.io.InputStream;
import java.util.ArrayList;
import java.util.List;
import java.util.Map;
import java.util.Set;
import java.util.TreeMap;
import java.util.TreeSet;

/**
 * What the compiled class calls and makes, read from its class files: nothing of the library but what
 * rules 4 and 6 of the language list, no catch, no recursion, calls at most eight deep (rule 11), and
 * nothing is made outside of constructors but exceptions (rule 12).
 */
public final class LibraryTest {
  private static final int DEEPEST = 8;
  private static final Set<String> LISTED = Set.of(
      "String.length", "String.charAt", "String.isEmpty", "String.equals", "String.indexOf", "String.substring", "String.toCharArray",
      "StringBuilder.<init>", "StringBuilder.append", "StringBuilder.charAt", "StringBuilder.setCharAt", "StringBuilder.setLength",
      "StringBuilder.deleteCharAt", "StringBuilder.reverse", "StringBuilder.length", "StringBuilder.toString",
      "Integer.bitCount", "Integer.compare", "Long.compare", "Math.max", "Math.min", "Math.abs", "Math.floorDiv", "Math.floorMod",
      "System.arraycopy", "Arrays.copyOf", "Arrays.copyOfRange", "Arrays.fill", "Object.<init>");
  private static final Set<String> EXCEPTIONS = Set.of(
      "IllegalStateException", "IllegalArgumentException", "IndexOutOfBoundsException", "ArithmeticException",
      "UnsupportedOperationException", "NoSuchElementException", "RuntimeException");

  private static int wrong = 0;
  /** The methods of the class, each with those that it calls. */
  private static final Map<String, Set<String>> CALLS = new TreeMap<>();

  private static void due(boolean is, String what) {
    if (is) return;
    wrong++;
    System.out.println("LibraryTest: " + what);
  }

  public static void main(String[] args) throws IOException {
    List<Class<?>> all = new ArrayList<>(List.of(Calendarhall.class.getDeclaredClasses()));
    all.add(Calendarhall.class);
    for (Class<?> one : all) new ClassFile(one.getName()).read();
    due(CALLS.size() > 100, "only " + CALLS.size() + " methods were read");
    int deepest = 0;
    for (String method : CALLS.keySet()) deepest = Math.max(deepest, depth(method, new ArrayList<>()));
    System.out.println("LibraryTest: " + CALLS.size() + " methods, calls " + deepest + " deep, " + wrong + " wrong");
    if (wrong > 0) System.exit(1);
  }

  private static int depth(String method, List<String> above) {
    if (above.contains(method)) {
      due(false, "recursion: " + above + " " + method);
      return 0;
    }
    above.add(method);
    due(above.size() <= DEEPEST, "too deep: " + above);
    int most = 0;
    for (String called : CALLS.getOrDefault(method, Set.of())) most = Math.max(most, depth(called, above));
    above.remove(above.size() - 1);
    return most + 1;
  }

  /** One class file: its constants, then its methods. */
  private static final class ClassFile {
    private final String name;
    private final DataInputStream in;
    private Object[] constants;
    private String method;
    private byte[] code;

    ClassFile(String name) {
      this.name = name;
      InputStream file = LibraryTest.class.getResourceAsStream("/" + name + ".class");
      in = new DataInputStream(file);
    }

    void read() throws IOException {
      in.skipNBytes(8);
      readConstants();
      in.skipNBytes(6);
      in.skipNBytes(2L * in.readUnsignedShort());
      for (int left = in.readUnsignedShort(); left > 0; left--) {
        in.skipNBytes(6);
        for (int more = in.readUnsignedShort(); more > 0; more--) {
          in.skipNBytes(2);
          in.skipNBytes(in.readInt());
        }
      }
      for (int left = in.readUnsignedShort(); left > 0; left--) readMethod();
      in.close();
    }

    private void readConstants() throws IOException {
      constants = new Object[in.readUnsignedShort()];
      for (int k = 1; k < constants.length; k++) {
        int tag = in.readUnsignedByte();
        if (tag == 1) constants[k] = in.readUTF();
        else if (tag == 5 || tag == 6) in.skipNBytes(8);
        else if (tag == 7 || tag == 8 || tag == 16 || tag == 19 || tag == 20) constants[k] = new int[] {in.readUnsignedShort()};
        else if (tag == 15) in.skipNBytes(3);
        else if (tag == 3 || tag == 4) in.skipNBytes(4);
        else constants[k] = new int[] {in.readUnsignedShort(), in.readUnsignedShort()};
        if (tag == 5 || tag == 6) k++;
      }
    }

    private String text(int index) { return (String) constants[index]; }
    private int[] pair(int index) { return (int[]) constants[index]; }
    private String className(int index) { return text(pair(index)[0]); }

    /** The class and the name of a method; methods that differ by their parameters alone are taken as one. */
    private String called(int index) {
      return className(pair(index)[0]) + "." + text(pair(pair(index)[1])[0]);
    }

    private void readMethod() throws IOException {
      in.skipNBytes(2);
      method = name + "." + text(in.readUnsignedShort());
      in.skipNBytes(2);
      CALLS.computeIfAbsent(method, k -> new TreeSet<>());
      for (int left = in.readUnsignedShort(); left > 0; left--) {
        String attribute = text(in.readUnsignedShort());
        byte[] content = new byte[in.readInt()];
        in.readFully(content);
        if (attribute.equals("Code")) readCode(content);
      }
    }

    private int shortAt(int at) { return (code[at] & 255) << 8 | code[at + 1] & 255; }
    private int intAt(int at) { return shortAt(at) << 16 | shortAt(at + 2); }

    private void readCode(byte[] content) {
      code = content;
      int begin = 8, end = begin + intAt(4);
      due(shortAt(end) == 0, method + " catches");
      for (int at = begin; at < end; at += width(at, at - begin)) {
        int sign = code[at] & 255;
        if (sign >= 182 && sign <= 185) look(called(shortAt(at + 1)));
        else if (sign == 187) lookAtMade(className(shortAt(at + 1)));
        else if (sign == 188 || sign == 189 || sign == 197) due(isBeginning(), method + " makes an array");
        due(sign != 186 && sign != 192 && sign != 194 && sign != 195, method + " has the instruction " + sign);
      }
    }

    private boolean isBeginning() { return method.endsWith("<init>") || method.endsWith("<clinit>"); }

    private void look(String called) {
      String[] parts = called.split("/");
      String last = parts[parts.length - 1];
      String owner = last.split("\\.")[0];
      if (!called.startsWith("java")) CALLS.get(method).add(called);
      else due(LISTED.contains(last) || EXCEPTIONS.contains(owner) && last.endsWith("<init>"), method + " calls " + called);
    }

    private void lookAtMade(String made) {
      String last = made.substring(made.lastIndexOf('/') + 1);
      boolean isException = made.startsWith("java") && EXCEPTIONS.contains(last);
      due(isException != isBeginning(), method + " makes a " + made);
    }

    /** How many bytes an instruction has. */
    private int width(int at, int place) {
      int sign = code[at] & 255;
      int pad = 3 - place % 4;
      if (sign == 170) return 1 + pad + 12 + 4 * (intAt(at + pad + 9) - intAt(at + pad + 5) + 1);
      if (sign == 171) return 1 + pad + 8 + 8 * intAt(at + pad + 5);
      if (sign == 196) return (code[at + 1] & 255) == 132 ? 6 : 4;
      if (sign == 185 || sign == 186 || sign == 200 || sign == 201) return 5;
      if (sign == 197) return 4;
      if (sign == 16 || sign == 18 || sign >= 21 && sign <= 25 || sign >= 54 && sign <= 58 || sign == 169 || sign == 188) return 2;
      boolean isLong = sign == 17 || sign == 19 || sign == 20 || sign == 132 || sign >= 153 && sign <= 168 || sign >= 178 && sign <= 184;
      return isLong || sign == 187 || sign == 189 || sign == 192 || sign == 193 || sign == 198 || sign == 199 ? 3 : 1;
    }
  }
}
