import java.nio.file.Files;
import java.nio.file.Path;
import java.time.LocalDate;
import java.time.temporal.ChronoUnit;
import java.util.ArrayList;
import java.util.List;

/**
 * The lines of Java in README.md are those of this file, and answer what the page says.
 * What is due was reckoned by hand from the document.
 */
public final class ReadmeTest {
  private static int wrong = 0;

  private static void due(long want, long got, String what) {
    if (want == got) return;
    wrong++;
    System.out.println("ReadmeTest: " + what + " is " + got + ", due is " + want);
  }

  public static void main(String[] args) throws Exception {
    lines();
    page();
    System.out.println("ReadmeTest: " + wrong + " wrong");
    if (wrong > 0) System.exit(1);
  }

  private static String bare(String line) {
    return line.replaceAll(" *// .*", "").strip();
  }

  /** Each line of Java on the page stands here too, behind those that are ahead of it in its piece. */
  private static void lines() throws Exception {
    List<String> here = new ArrayList<>();
    for (String line : Files.readAllLines(Path.of("src/test/java/ReadmeTest.java"))) here.add(bare(line));
    int at = 0;
    boolean isJava = false;
    int found = 0;
    for (String line : Files.readAllLines(Path.of("README.md"))) {
      if (line.startsWith("```")) {
        isJava = line.equals("```java");
        at = 0;
      } else if (isJava) {
        String want = bare(line);
        int next = at;
        while (next < here.size() && !here.get(next).equals(want)) next++;
        due(1, next < here.size() ? 1 : 0, "the line of README.md \"" + want + "\" in ReadmeTest");
        if (next < here.size()) at = next + 1;
        found++;
      }
    }
    due(1, found > 20 ? 1 : 0, "whether README.md shows lines of Java");
  }

  private static void page() {
    Calendarhall hall = new Calendarhall();
    hall.setZone(1, 60, 60);
    int monday = hall.dayOf(2026, 11, 23);
    due(ChronoUnit.DAYS.between(LocalDate.of(2000, 1, 1), LocalDate.of(2026, 11, 23)), monday, "monday");
    int talk = hall.addSeries(1, monday, 600, 45, 3, true);
    hall.setRule(talk, Calendarhall.WEEKS, 2, 1 | 8, 0);
    hall.setEnd(talk, 1, 10);
    int thursday = hall.nextDay(talk, monday + 1);
    due(monday + 3, thursday, "thursday");
    hall.move(talk, thursday, thursday + 1, 660);
    due((thursday + 1) * 1440 + 600, hall.begin(talk, thursday), "the begin of the moved date");
    hall.leaveOut(talk, hall.dayOfSeries(talk, 2));
    due(Calendarhall.NONE, hall.begin(talk, monday + 14), "the begin of the third date");
    int begin = hall.begin(talk, monday);
    due(monday * 1440 + 540, begin, "begin");
    int later = hall.fromHere(talk, hall.dayOfSeries(talk, 4), 840, 30);
    due(monday + 28, hall.seriesAt(later, 1), "the first day of later");
    due(6, hall.seriesAt(later, 11), "the days that were left for later");
    due(monday + 27, hall.seriesAt(talk, 11), "the last day of talk");
    text(hall, later, monday);

    hall.setPerson(1, 1, 31, 540, 1020);
    hall.answer(talk, 1, Calendarhall.YES);
    hall.counter(talk, 0, 630);
    hall.accept(talk, 0);
    due(630, hall.seriesAt(talk, 2), "the minute that was accepted");
    due(Calendarhall.NOT_YET, hall.answerOf(talk, 1), "the answer of person 1");
    int from = monday * 1440, to = from + 7 * 1440;
    int free = hall.freeNext(3, from, to, 60, true);
    due(from + 615, free, "free");
    int best = hall.best(3, from, to, 60, false);
    due(from + 615, best, "best");
    int without = hall.layRooms(from, to);
    due(0, without, "without");
    int room = hall.roomOf(talk, monday);
    due(0, room, "room");
    int call = hall.addSeries(1, monday, 645, 60, 1, false);
    int clashes = hall.clashes(0, from, to);
    due(1, clashes, "clashes");
    due(call, hall.clashAt(clashes - 1, 2), "the second date of the clash");
    int minutes = hall.plan(1 << talk | 1 << call, from, to);
    due(30, minutes, "minutes");
    int dates = hall.applyPlan();
    due(1, dates, "dates");
    due(from + 540, hall.begin(talk, monday), "the begin that the plan tells");
    clock(hall);
  }

  private static void text(Calendarhall hall, int later, int monday) {
    hall.clearText();
    for (char sign : "every 2 weeks on fr until 10000".toCharArray()) hall.type(sign);
    int wrong = hall.errorPlace();
    due(Calendarhall.NONE, wrong, "wrong");
    hall.readRule(later);
    due(monday + 32, hall.nextDay(later, monday), "the first day by the rule that was read");
    int length = hall.write(later);
    due("every 2 weeks on fr until 10000".length(), length, "length");
    due('0', hall.writtenAt(length - 1), "the last byte");
  }

  private static void clock(Calendarhall hall) {
    int soon = hall.addSeries(0, 10, 30, 15, 1, false);
    due(30, hall.begin(soon, 10) - hall.now(), "the way from the clock to the date");
    hall.remind(soon, 10);
    int came = hall.pass(25);
    due(1, came, "came");
    due(14420, hall.ringAt(0, 2), "the minute of the ring");
    int again = hall.snooze(0, 5);
    due(14430, again, "again");
    hall.change(0, 3, 0, 17);
    hall.deliver(0, 0);
    due(17, hall.shown(1, 3, 0), "what the device 1 shows");
    boolean alike = hall.areAlike();
    due(1, alike ? 1 : 0, "alike");
    int left = hall.undo();
    due(7, left, "left");
    due(Calendarhall.NONE, hall.shown(1, 3, 0), "what the device 1 shows behind undo()");
  }
}
