import java.io.IOException;
import java.nio.file.Files;
import java.nio.file.Path;
import java.time.LocalDate;
import java.time.temporal.ChronoUnit;
import java.util.ArrayList;
import java.util.HashSet;
import java.util.List;
import java.util.Set;
import java.util.function.Supplier;

/**
 * What the files of edge tests share. A test quotes the sentence (or line) of ../shared/DOC.md that it
 * is for; at the end each sentence of the sections that a file takes on must have been quoted, or have
 * been told to name no edge, so that no sentence of the document is forgotten.
 */
abstract class Sentences {
  static final int NONE = -1, FIRST = 14400, LAST = 210240000, DAY = 1440;
  static final int LEAST = Integer.MIN_VALUE, MOST = Integer.MAX_VALUE;
  static final String OUT = "IndexOutOfBoundsException", BAD = "IllegalArgumentException";
  static final String STATE = "IllegalStateException", MISSING = "NoSuchElementException";

  interface Call { Object on(Calendarhall x); }
  interface With { Object on(Calendarhall x, int value); }
  interface Piece { Object on(Calendarhall x, int from, int to); }

  private static final class Sentence {
    String section;
    String text;
    boolean isQuoted;
  }

  private static final List<Sentence> ALL = new ArrayList<>();
  private static final Set<String> SECTIONS = new HashSet<>();
  private static String section = "";
  private static String quote = "";
  private static int tests = 0;
  private static int checks = 0;
  private static int wrong = 0;

  // ---- the document

  private static void read() {
    String here = "";
    boolean isCode = false;
    for (String line : lines()) {
      if (line.startsWith("```")) isCode = !isCode;
      else if (line.startsWith("## ")) here = line.substring(3).replaceAll("(Promise \\d+):.*", "$1");
      else if (here.startsWith("Terms") && line.matches("[1-9]\\. .*")) here = "Terms " + line.charAt(0);
      else if (isCode || line.startsWith("- ")) add(here, line.strip());
      else for (String one : line.split("(?<=[.)!?]) (?=[A-Z`(])")) if (!one.isBlank()) add(here, one);
    }
  }

  private static List<String> lines() {
    try {
      return Files.readAllLines(Path.of("../shared/DOC.md"));
    } catch (IOException e) {
      throw new IllegalStateException(e);
    }
  }

  private static void add(String section, String text) {
    Sentence one = new Sentence();
    one.section = section;
    one.text = text;
    ALL.add(one);
  }

  static void section(String name) {
    if (ALL.isEmpty()) read();
    section = name;
    SECTIONS.add(name);
  }

  private static void quote(String words) {
    quote = words;
    int found = 0;
    for (Sentence one : ALL) {
      if (!one.section.equals(section) || !one.text.contains(words)) continue;
      found++;
      one.isQuoted = true;
    }
    if (found != 1) fail("is quoted, but stands there " + found + " times");
  }

  /** A test for the one sentence of the section that has these words. */
  static void of(String words, Runnable test) {
    quote(words);
    int before = checks;
    tests++;
    test.run();
    if (checks == before) fail("the test checks nothing");
  }

  /** A sentence that names no edge: it only leads to others, or groups calls. */
  static void namesNoEdge(String words) {
    quote(words);
  }

  static void finish(String name) {
    for (Sentence one : ALL) {
      if (one.isQuoted || !SECTIONS.contains(one.section)) continue;
      section = one.section;
      quote = one.text;
      fail("has no test");
    }
    System.out.println(name + ": " + tests + " tests, " + checks + " checks, " + wrong + " wrong");
    if (wrong > 0) System.exit(1);
  }

  // ---- checks

  private static void fail(String what) {
    wrong++;
    System.out.println(section + ", line " + lineOfTest() + ", \"" + quote + "\": " + what);
  }

  /** The line of the test itself, not of what it shares with others. */
  private static int lineOfTest() {
    int line = 0;
    for (StackTraceElement e : new Throwable().getStackTrace()) {
      if (e.getMethodName().equals("of")) return line;
      if (e.getFileName() != null && e.getFileName().startsWith("Edges")) line = e.getLineNumber();
    }
    return line;
  }

  static Object ask(Supplier<Object> call) {
    try {
      return call.get();
    } catch (RuntimeException e) {
      return e.getClass().getSimpleName();
    }
  }

  /** One call and what is due: a number, a boolean, a text, or the name of an exception. */
  static void due(Object want, Supplier<Object> call) {
    Object got = ask(call);
    checks++;
    if (!got.equals(want)) fail("answered " + got + ", due is " + want);
  }

  /** The call throws nothing. */
  static void taken(Supplier<Object> call) {
    Object got = ask(call);
    checks++;
    if (got instanceof String && ((String) got).endsWith("Exception")) fail("is refused: " + got);
  }

  /** The call on such a hall throws this exception, and nothing is different then. */
  static void refused(String want, Supplier<Calendarhall> make, Call call) {
    Calendarhall x = make.get();
    due(want, () -> call.on(x));
    due(picture(make.get()), () -> picture(x));
  }

  /** A number is taken from the least to the most one; others are refused, and nothing is different then. */
  static void range(int least, int most, String want, Supplier<Calendarhall> make, With call) {
    for (int value : new int[] {least, most}) taken(() -> call.on(make.get(), value));
    for (int value : new int[] {least - 1, most + 1, LEAST, MOST}) {
      if (value < least || value > most) refused(want, make, x -> call.on(x, value));
    }
  }

  /** The first minute of a piece of time is a common minute. */
  static void rangeOfFrom(Supplier<Calendarhall> make, Piece call) {
    taken(() -> call.on(make.get(), FIRST, FIRST + 1));
    taken(() -> call.on(make.get(), LAST - 1, LAST));
    for (int from : new int[] {FIRST - 1, 0, -1, LEAST}) refused(BAD, make, x -> call.on(x, from, FIRST + 1));
    refused(BAD, make, x -> call.on(x, LAST + 1, LAST + 2));
    refused(BAD, make, x -> call.on(x, MOST - 1, MOST));
  }

  /** The second minute of a piece of time is a common minute, and greater than the first one. */
  static void rangeOfTo(Supplier<Calendarhall> make, Piece call) {
    taken(() -> call.on(make.get(), FIRST, FIRST + 1));
    taken(() -> call.on(make.get(), LAST - 5, LAST));
    for (int to : new int[] {LAST + 1, MOST}) refused(BAD, make, x -> call.on(x, LAST - 5, to));
    for (int to : new int[] {FIRST + 5, FIRST + 4, FIRST, 0, LEAST}) refused(BAD, make, x -> call.on(x, FIRST + 5, to));
  }

  /** A piece of time is not longer than so many minutes. */
  static void longest(int minutes, Supplier<Calendarhall> make, Piece call) {
    for (int from : new int[] {FIRST, FIRST + 777}) {
      taken(() -> call.on(make.get(), from, from + minutes));
      refused(BAD, make, x -> call.on(x, from, from + minutes + 1));
    }
    taken(() -> call.on(make.get(), LAST - minutes, LAST));
    refused(BAD, make, x -> call.on(x, LAST - minutes - 1, LAST));
    refused(BAD, make, x -> call.on(x, FIRST, LAST));
  }

  // ---- halls

  static Calendarhall fresh() {
    return new Calendarhall();
  }

  /** A hall with a series 0 on each day from the day 10 on, at the minute 600, for 30 minutes, with the person 0. */
  static Calendarhall daily() {
    Calendarhall x = new Calendarhall();
    x.addSeries(0, 10, 600, 30, 1, false);
    x.setRule(0, 1, 1, 0, 0);
    return x;
  }

  /** A hall with something of all that there is; the series 0 and 1 are on together, and the latest eight changes each pass a minute. */
  static Calendarhall full() {
    Calendarhall x = new Calendarhall();
    x.setZone(1, 60, 60);
    x.setPerson(1, 1, 127, 0, 600);
    x.setRoom(3, 7);
    x.addSeries(0, 10, 10, 30, 7, true);
    x.setRule(0, 1, 1, 0, 0);
    x.addSeries(1, 10, 70, 60, 7, true);
    x.setRule(1, 2, 1, 31, 0);
    x.addSeries(2, 12, 600, 45, 130, false);
    x.move(0, 13, 20, 600);
    x.leaveOut(0, 14);
    x.counter(0, 1, 300);
    x.answer(0, 2, 3);
    x.remind(0, 0);
    x.remind(1, 1440);
    x.pass(12);
    x.snooze(0, 20);
    x.change(0, 3, 2, 17);
    x.change(1, 3, 2, 18);
    x.deliver(1, 0);
    type(x, "every 5 days");
    x.write(1);
    x.layRooms(FIRST, FIRST + 3 * DAY);
    x.clashes(0, FIRST, FIRST + 3 * DAY);
    x.plan(3, FIRST + DAY, FIRST + 2 * DAY);
    for (int k = 0; k < 8; k++) x.pass(1);
    return x;
  }

  static void type(Calendarhall x, String text) {
    for (int at = 0; at < text.length(); at += 8) {
      long bytes = 0;
      for (int k = at; k < Math.min(at + 8, text.length()); k++) bytes = bytes << 8 | text.charAt(k);
      x.type(bytes);
    }
  }

  static String written(Calendarhall x, int series) {
    int length = x.write(series);
    StringBuilder out = new StringBuilder();
    for (int k = 0; k < length; k++) out.append((char) x.writtenAt(k));
    return out.toString();
  }

  /** The number of a day of the calendar, by the Java library. */
  static int day(int year, int month, int number) {
    return (int) ChronoUnit.DAYS.between(LocalDate.of(2000, 1, 1), LocalDate.of(year, month, number));
  }

  /** All that can be asked of a hall (in fewer than 400 calls), as a text; the hall is undone by it. */
  static String picture(Calendarhall x) {
    StringBuilder out = new StringBuilder();
    for (int z = 0; z < 3; z++) for (int day : new int[] {10, 90, 200, 310}) out.append(x.toLocal(z, day * DAY)).append(' ');
    for (int p = 0; p < 8; p++) out.append(x.minutesOf(p, FIRST, FIRST + 7 * DAY, 0)).append(' ').append(x.minutesOf(p, FIRST, FIRST + 7 * DAY, 1)).append(' ');
    for (int n = 0; n < 12; n++) drawSeries(x, n, out);
    for (int k = 0; k < x.rings(); k++) for (int w = 0; w < 4; w++) out.append(x.ringAt(k, w)).append(' ');
    for (int k = 0; k < 10; k++) draw(out, x, k, (h, r) -> h.nextRing(r));
    for (int d = 0; d < 2; d++) for (int n = 0; n < 12; n++) for (int f = 0; f < 4; f++) out.append(x.shown(d, n, f)).append(' ');
    out.append("text ").append(x.type(0)).append(' ').append(x.errorPlace()).append(' ');
    for (int k = 0; k < 30; k++) draw(out, x, k, (h, place) -> h.writtenAt(place));
    for (int k = 0; k < 8; k++) draw(out, x, k, (h, n) -> h.clashAt(n / 4, n % 4));
    for (int k = 0; k < 6; k++) draw(out, x, k, (h, n) -> h.planAt(n / 3, n % 3));
    for (int k = 0; k < 6; k++) draw(out, x, k, (h, n) -> h.roomOf(n / 3, 10 + n % 3));
    drawByChanges(x, out);
    return out.toString();
  }

  private static void draw(StringBuilder out, Calendarhall x, int value, With call) {
    out.append(ask(() -> call.on(x, value))).append(' ');
  }

  private static void drawSeries(Calendarhall x, int n, StringBuilder out) {
    out.append("series ").append(n).append(": ");
    draw(out, x, 0, (h, what) -> h.seriesAt(n, what));
    if (ask(() -> x.seriesAt(n, 0)) instanceof String) return;
    for (int k = 1; k < 13; k++) draw(out, x, k, (h, what) -> h.seriesAt(n, what));
    // Of many series this is all, so that the calls stay few enough.
    if (n > 2) return;
    for (int k = 10; k < 17; k++) draw(out, x, k, (h, day) -> h.begin(n, day));
    for (int k = 0; k < 8; k++) draw(out, x, k, (h, p) -> h.answerOf(n, p));
    for (int k = 0; k < 8; k++) draw(out, x, k, (h, p) -> h.counterOf(n, p));
  }

  /** What only changes tell, each undone at once: buildings, snoozed rings, clocks of devices; then what can be undone. */
  private static void drawByChanges(Calendarhall x, StringBuilder out) {
    for (int k = 0; k < 4; k++) {
      draw(out, x, k, (h, room) -> h.setRoom(room, 0));
      x.undo();
    }
    out.append(x.pass(600)).append(' ');
    x.undo();
    for (int k = 0; k < 2; k++) {
      draw(out, x, k, (h, device) -> h.change(device, 0, 0, 0));
      x.undo();
    }
    for (int k = 0; k < 9; k++) {
      out.append(x.now()).append(' ');
      draw(out, x, 0, (h, v) -> h.undo());
    }
  }
}
