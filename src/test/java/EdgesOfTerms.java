import java.time.DayOfWeek;
import java.time.LocalDate;
import java.time.Year;
import java.time.temporal.TemporalAdjusters;

/** The sentences of the document's sections 1 to 9 that name an edge, each with a test of its own. */
public final class EdgesOfTerms extends Sentences {
  public static void main(String[] args) {
    lifeOfAnObject();
    days();
    zones();
    switches();
    series();
    rules();
    daysOfSeries();
    dates();
    people();
    rooms();
    plans();
    reminders();
    devices();
    tokens();
    grammar();
    undoing();
    exceptions();
    constants();
    finish("EdgesOfTerms");
  }

  private static void lifeOfAnObject() {
    section("What it is");
    namesNoEdge("A calendar hall:");
    of("An object is used for at most 512 calls", () -> {
      Calendarhall x = fresh();
      for (int k = 0; k < 511; k++) x.pass(1440);
      due(FIRST + 511 * DAY, () -> x.now());
      Calendarhall y = fresh();
      for (int k = 0; k < 504; k++) y.setRoom(0, k % 10);
      for (int left = 7; left >= 0; left--) {
        int count = left;
        due(count, () -> y.undo());
      }
    });
  }

  // ---- 1. Days and minutes

  private static void days() {
    section("Terms 1");
    of("Days are numbered from 0, the 1st of January 2000, to 146096", () -> {
      Calendarhall x = fresh();
      int[][] edges = {{0, 2000, 1, 1}, {146096, 2399, 12, 31}};
      for (int[] e : edges) {
        for (int k = 0; k < 3; k++) {
          int what = k;
          due(e[k + 1], () -> x.dayAt(e[0], what));
        }
        due(e[0], () -> x.dayOf(e[1], e[2], e[3]));
      }
      due(BAD, () -> x.dayAt(-1, 0));
      due(BAD, () -> x.dayAt(146097, 0));
    });
    of("A year has 366 days if its number is divisible by 4", () -> {
      for (int k = 2000; k < 2400; k++) {
        int year = k;
        Calendarhall x = fresh();
        boolean isLong = Year.isLeap(year);
        due(day(year, 12, 31), () -> x.dayOf(year, 12, 31));
        due(isLong ? 366 : 365, () -> x.dayAt(day(year, 12, 31), 4));
        due(isLong ? day(year, 2, 29) : NONE, () -> x.dayOf(year, 2, 29));
        due(isLong ? 29 : 28, () -> x.dayAt(day(year, 3, 1) - 1, 2));
      }
    });
    of("Months are 1 to 12.", () -> {
      Calendarhall x = fresh();
      due(BAD, () -> x.dayOf(2001, 0, 1));
      due(day(2001, 1, 1), () -> x.dayOf(2001, 1, 1));
      due(day(2001, 12, 1), () -> x.dayOf(2001, 12, 1));
      due(BAD, () -> x.dayOf(2001, 13, 1));
      due(12, () -> x.dayAt(365, 1));
      due(1, () -> x.dayAt(366, 1));
    });
    of("Weekdays are 0 (Monday) to 6 (Sunday); the day 0 is a Saturday.", () -> {
      Calendarhall x = fresh();
      due(5, () -> x.dayAt(0, 3));
      due(6, () -> x.dayAt(1, 3));
      due(0, () -> x.dayAt(2, 3));
      due(LocalDate.of(2399, 12, 31).getDayOfWeek().getValue() - 1, () -> x.dayAt(146096, 3));
    });
    of("A week begins with a Monday.", () -> {
      // The day 15 is a Sunday: in each second week it is alone, and the next one begins with the Monday 23.
      Calendarhall x = fresh();
      x.addSeries(0, 15, 0, 1, 0, false);
      x.setRule(0, 2, 2, 127, 0);
      dueDays(x, 15, 23, 24, 25, 26, 27, 28, 29, 37);
      // The day 16 is a Monday: the whole week is in it.
      x.addSeries(0, 16, 0, 1, 0, false);
      x.setRule(1, 2, 2, 127, 0);
      due(22, () -> x.dayOfSeries(1, 6));
      due(30, () -> x.dayOfSeries(1, 7));
    });
    of("its day is that number divided by 1440, its minute of the day the rest.", () -> {
      Calendarhall x = daily();
      x.edit(0, 0, 0);
      due(14400, () -> x.begin(0, 10));
      x.edit(0, 0, 1439);
      due(15839, () -> x.begin(0, 10));
      due(15840, () -> x.move(0, 12, 11, 0));
      due(210240000, () -> x.move(0, 12, 146000, 0));
    });
    of("All calls take common minutes from 14400", () -> {
      With[] calls = {
        (x, m) -> x.toLocal(0, m), (x, m) -> x.toCommon(0, m, false), (x, m) -> x.toCommon(0, m, true), (x, m) -> x.nextDate(0, m), (x, m) -> x.datesAt(0, m)
      };
      for (With call : calls) range(14400, 210240000, BAD, () -> full(), call);
      With[] days = {
        (x, d) -> x.addSeries(0, d, 0, 1, 0, false), (x, d) -> x.move(0, 12, d, 0), (x, d) -> x.nextDay(0, d), (x, d) -> x.countDays(0, d, 146000), (x, d) -> x.setEnd(0, 2, d)
      };
      for (With call : days) range(10, 146000, BAD, () -> full(), call);
    });
  }

  /** The first days of the series 0, told by nextDay(), dayOfSeries() and countDays(). */
  private static void dueDays(Calendarhall x, int... days) {
    int at = 10;
    for (int k = 0; k < days.length; k++) {
      int from = at, want = days[k], place = k;
      due(want, () -> x.nextDay(0, from));
      due(want, () -> x.nextDay(0, want));
      due(want, () -> x.dayOfSeries(0, place));
      due(place + 1, () -> x.countDays(0, 10, want));
      at = want + 1;
    }
  }

  /** All days of the series 0. */
  private static void dueAllDays(Calendarhall x, int... days) {
    dueDays(x, days);
    int last = days.length == 0 ? 9 : days[days.length - 1];
    if (last < 146000) due(NONE, () -> x.nextDay(0, last + 1));
    due(MISSING, () -> x.dayOfSeries(0, days.length));
    due(days.length, () -> x.countDays(0, 10, 146000));
  }

  // ---- 2. Zones

  private static void zones() {
    section("Terms 2");
    of("There are the zones 0 to 2.", () -> {
      With[] calls = {
        (x, z) -> x.setZone(z, 0, 0), (x, z) -> x.setSwitch(z, true, 5, 1, 0, 0), (x, z) -> x.setPerson(0, z, 0, 0, 1),
        (x, z) -> x.addSeries(z, 10, 0, 1, 0, false), (x, z) -> x.toLocal(z, FIRST), (x, z) -> x.toCommon(z, FIRST, false)
      };
      for (With call : calls) range(0, 2, OUT, () -> full(), call);
    });
    of("A zone has an offset (-720 to 840 minutes) and a shift (0 to 120 minutes), both divisible by 15", () -> {
      range(-720, 840, BAD, () -> full(), (x, offset) -> x.setZone(0, offset, 0));
      range(0, 120, BAD, () -> full(), (x, shift) -> x.setZone(0, 0, shift));
      for (int k = -30; k <= 30; k++) {
        int number = k;
        due(k % 15 == 0 ? (Object) 0 : BAD, () -> fresh().setZone(0, number, 0));
        due(k % 15 == 0 && k >= 0 ? (Object) 0 : BAD, () -> fresh().setZone(0, 0, number));
      }
    });
    of("At first a zone has the offset 0 and the shift 0", () -> {
      for (int k = 0; k < 3; k++) {
        int z = k;
        Calendarhall x = fresh();
        due(200 * DAY, () -> x.toLocal(z, 200 * DAY));
        due(0, () -> x.setZone(z, 0, 60));
        dueBorder(x, z, day(2000, 3, 26) * DAY + 120, 0, 60);
        dueBorder(x, z, day(2000, 10, 29) * DAY + 120, 60, 0);
        due(3, () -> x.setSwitch(z, true, 3, 5, 6, 120));
        due(10, () -> x.setSwitch(z, false, 10, 5, 6, 120));
      }
    });
    of("The standard clock of a zone tells the common minute and the offset.", () -> {
      for (int offset : new int[] {-720, -15, 0, 15, 840}) {
        Calendarhall x = fresh();
        x.setZone(0, offset, 0);
        due(FIRST + offset, () -> x.toLocal(0, FIRST));
        due(LAST + offset, () -> x.toLocal(0, LAST));
      }
    });
    of("The local minute is what the standard clock tells, and in summer the shift more.", () -> {
      for (int shift : new int[] {15, 120}) {
        Calendarhall x = fresh();
        x.setZone(0, -30, shift);
        due(200 * DAY - 30 + shift, () -> x.toLocal(0, 200 * DAY));
        due(20 * DAY - 30, () -> x.toLocal(0, 20 * DAY));
      }
    });
    of("A local minute can be told by several common minutes, or by none.", () -> {
      Calendarhall x = fresh();
      x.setZone(0, 0, 60);
      int forth = day(2000, 3, 26) * DAY + 120, back = day(2000, 10, 29) * DAY + 120;
      dueTellers(x, forth - 1, forth - 1, NONE);
      dueTellers(x, forth, NONE, NONE);
      dueTellers(x, forth + 59, NONE, NONE);
      dueTellers(x, forth + 60, forth, NONE);
      dueTellers(x, back - 1, back - 61, NONE);
      dueTellers(x, back, back - 60, back);
      dueTellers(x, back + 59, back - 1, back + 59);
      dueTellers(x, back + 60, back + 60, NONE);
    });
    of("The common minute of a local minute is the first one that tells it; if there is none, it is the local minute less the offset.", () -> {
      Calendarhall x = daily();
      x.setZone(0, 30, 60);
      int forth = day(2000, 3, 26) * DAY + 120, back = day(2000, 10, 29) * DAY + 120;
      dueMoved(x, forth - 1, forth - 31);
      dueMoved(x, forth, forth - 30);
      dueMoved(x, forth + 59, forth + 29);
      dueMoved(x, forth + 60, forth - 30);
      dueMoved(x, back - 1, back - 91);
      dueMoved(x, back, back - 90);
      dueMoved(x, back + 59, back - 31);
      dueMoved(x, back + 60, back + 30);
    });
  }

  /** From the minute ahead of this one to this one, by the standard clock of a zone without an offset, the summer begins or ends. */
  private static void dueBorder(Calendarhall x, int zone, int minute, int ahead, int behind) {
    due(minute - 1 + ahead, () -> x.toLocal(zone, minute - 1));
    due(minute + behind, () -> x.toLocal(zone, minute));
  }

  private static void dueTellers(Calendarhall x, int local, int first, int second) {
    due(first, () -> x.toCommon(0, local, false));
    due(second, () -> x.toCommon(0, local, true));
  }

  private static void dueMoved(Calendarhall x, int local, int common) {
    due(common, () -> x.move(0, 20, local / DAY, local % DAY));
    due(common, () -> x.begin(0, 20));
  }

  private static void switches() {
    section("Terms 2");
    // A switch is at the place-th weekday; the place 5 is the last one, whether the month has four or five.
    of("(5: of the last one) it happens, each year.", () -> {
      for (int month = 1; month <= 12; month++) for (int weekday = 0; weekday < 7; weekday++) {
        Calendarhall x = fresh();
        x.setZone(0, 0, 60);
        x.setSwitch(0, false, month == 7 ? 8 : 7, 1, 0, 0);
        LocalDate first = LocalDate.of(2001, month, 1);
        DayOfWeek name = DayOfWeek.of(weekday + 1);
        for (int place = 1; place <= 5; place++) {
          x.setSwitch(0, true, month, place, weekday, 1439);
          LocalDate at = first.with(place == 5 ? TemporalAdjusters.lastInMonth(name) : TemporalAdjusters.dayOfWeekInMonth(place, name));
          dueBorder(x, 0, day(at.getYear(), month, at.getDayOfMonth()) * DAY + 1439, 0, 60);
        }
      }
    });
    of("it happens, each year.", () -> {
      for (int year = 2000; year < 2400; year++) {
        Calendarhall x = fresh();
        x.setZone(0, 0, 60);
        LocalDate forth = LocalDate.of(year, 3, 1).with(TemporalAdjusters.lastInMonth(DayOfWeek.SUNDAY));
        LocalDate back = LocalDate.of(year, 10, 1).with(TemporalAdjusters.lastInMonth(DayOfWeek.SUNDAY));
        dueBorder(x, 0, day(year, 3, forth.getDayOfMonth()) * DAY + 120, 0, 60);
        if (year < 2399) dueBorder(x, 0, day(year, 10, back.getDayOfMonth()) * DAY + 120, 60, 0);
      }
    });
    of("It is summer in the zone, if the shift is not 0", () -> {
      Calendarhall x = fresh();
      due(day(2000, 7, 1) * DAY, () -> x.toLocal(0, day(2000, 7, 1) * DAY));
      dueTellers(x, day(2000, 3, 26) * DAY + 130, day(2000, 3, 26) * DAY + 130, NONE);
      dueTellers(x, day(2000, 10, 29) * DAY + 130, day(2000, 10, 29) * DAY + 130, NONE);
    });
    of("it is not before the switch forth and before the switch back", () -> {
      Calendarhall x = fresh();
      x.setZone(0, 0, 120);
      x.setSwitch(0, true, 4, 1, 5, 0);
      x.setSwitch(0, false, 5, 1, 0, 1439);
      // The 1st of April and the 1st of May 2000 are a Saturday and a Monday.
      dueBorder(x, 0, day(2000, 4, 1) * DAY, 0, 120);
      dueBorder(x, 0, day(2000, 5, 1) * DAY + 1439, 120, 0);
      // At the turn of the year there is none.
      dueBorder(x, 0, day(2001, 1, 1) * DAY, 0, 0);
    });
    of("if the month of the switch forth is behind that of the switch back, not before the switch forth or before the switch back.", () -> {
      Calendarhall x = fresh();
      x.setZone(0, 0, 120);
      x.setSwitch(0, false, 2, 1, 1, 0);
      x.setSwitch(0, true, 12, 5, 6, 1439);
      // The 1st of February and the 31st of December 2000 are a Tuesday and a Sunday.
      dueBorder(x, 0, FIRST + 1, 120, 120);
      dueBorder(x, 0, day(2000, 2, 1) * DAY, 120, 0);
      dueBorder(x, 0, day(2000, 12, 31) * DAY + 1439, 0, 120);
      dueBorder(x, 0, day(2001, 1, 1) * DAY, 120, 120);
      dueBorder(x, 0, day(2001, 2, 6) * DAY, 120, 0);
      dueBorder(x, 0, day(2099, 12, 27) * DAY + 1439, 0, 120);
    });
    of("or, if the month of the switch forth is behind that of the switch back", () -> {
      // The middle of each month, for each two months of the switches, in both orders.
      for (int f = 1; f <= 12; f++) for (int b = 1; b <= 12; b++) {
        if (f == b) continue;
        Calendarhall x = fresh();
        x.setZone(0, 0, 60);
        // By way of a third month, as the two must never be the same.
        int between = f != 3 && f != 10 ? f : b == 5 ? 6 : 5;
        x.setSwitch(0, true, between, 1, 0, 0);
        x.setSwitch(0, false, b, 1, 0, 0);
        x.setSwitch(0, true, f, 1, 0, 0);
        for (int m = 1; m <= 12; m++) {
          int minute = day(2001, m, 15) * DAY;
          boolean isSummer = f < b ? m >= f && m < b : m >= f || m < b;
          due(isSummer ? minute + 60 : minute, () -> x.toLocal(0, minute));
        }
      }
    });
    of("in the year that the standard clock tells", () -> {
      // Back at the first minute of 2001 (a Monday), by the standard clock: in common minutes it is by the offset earlier or later.
      for (int offset : new int[] {-720, 840}) {
        Calendarhall x = fresh();
        x.setZone(0, offset, 60);
        x.setSwitch(0, true, 12, 1, 0, 0);
        x.setSwitch(0, false, 1, 1, 0, 0);
        int turn = day(2001, 1, 1) * DAY;
        due(turn + 59, () -> x.toLocal(0, turn - offset - 1));
        due(turn, () -> x.toLocal(0, turn - offset));
      }
    });
    of("It is summer in the zone, if", () -> {
      // A summer of one minute: from the last Monday of January 2000, the 31st, to the 1st of February, a Tuesday.
      Calendarhall x = daily();
      x.setZone(0, 0, 15);
      x.setSwitch(0, true, 1, 5, 0, 1439);
      x.setSwitch(0, false, 2, 1, 1, 0);
      int summer = 31 * DAY - 1;
      dueBorder(x, 0, summer, 0, 15);
      dueBorder(x, 0, summer + 1, 15, 0);
      dueTellers(x, summer, NONE, NONE);
      dueTellers(x, summer + 15, summer, summer + 15);
      dueMoved(x, summer, summer);
      dueMoved(x, summer + 15, summer);
      // A winter of one minute, the other way round.
      Calendarhall y = daily();
      y.setZone(0, 0, 15);
      y.setSwitch(0, true, 2, 1, 1, 0);
      y.setSwitch(0, false, 1, 5, 0, 1439);
      dueBorder(y, 0, summer, 15, 0);
      dueBorder(y, 0, summer + 1, 0, 15);
      dueTellers(y, summer, summer - 15, summer);
      dueTellers(y, summer + 15, NONE, NONE);
      dueMoved(y, summer + 15, summer + 15);
    });
  }

  // ---- 3. Series and their days

  private static void series() {
    section("Terms 3");
    of("There are at most 12 series, numbered 0 to 11; a new one gets the least number that none has.", () -> {
      Calendarhall x = fresh();
      for (int k = 0; k < 12; k++) {
        int number = k;
        due(number, () -> x.addSeries(0, 10, 0, 1, 0, false));
      }
      due(STATE, () -> x.addSeries(0, 10, 0, 1, 0, false));
      for (int k : new int[] {11, 0, 5}) x.dropSeries(k);
      for (int k : new int[] {0, 5, 11}) {
        int number = k;
        due(number, () -> x.addSeries(0, 10, 0, 1, 0, false));
      }
      due(STATE, () -> x.addSeries(0, 10, 0, 1, 0, false));
      due(OUT, () -> x.seriesAt(12, 0));
      due(OUT, () -> x.seriesAt(-1, 0));
    });
    of("A series has a zone, a first day, a minute of the day (0 to 1439), a length (1 to 600 minutes)", () -> {
      range(0, 1439, BAD, () -> full(), (x, minute) -> x.addSeries(0, 10, minute, 1, 0, false));
      range(1, 600, BAD, () -> full(), (x, length) -> x.addSeries(0, 10, 0, length, 0, false));
    });
    namesNoEdge("The rule is one of these kinds:");
    of("A step is 1 to 99; a set of weekdays has the bit of weekday k (1, 2, 4 and so on), 1 to 127.", () -> {
      for (int k : new int[] {1, 5}) {
        int kind = k;
        range(1, 99, BAD, () -> full(), (x, step) -> x.setRule(0, kind, step, 0, 0));
      }
      range(1, 99, BAD, () -> full(), (x, step) -> x.setRule(0, 2, step, 1, 0));
      range(1, 99, BAD, () -> full(), (x, step) -> x.setRule(0, 3, step, 0, 1));
      range(1, 99, BAD, () -> full(), (x, step) -> x.setRule(0, 4, step, 1, 1));
      range(1, 127, BAD, () -> full(), (x, set) -> x.setRule(0, 2, 1, set, 0));
      range(1, 127, BAD, () -> full(), (x, set) -> x.setRule(0, 4, 1, set, 1));
      // The day 16 is a Monday.
      for (int k = 0; k < 7; k++) {
        int weekday = k;
        Calendarhall x = fresh();
        x.addSeries(0, 16, 0, 1, 0, false);
        x.setRule(0, 2, 1, 1 << weekday, 0);
        dueDays(x, 16 + weekday, 23 + weekday);
      }
    });
    of("A series has at most 10 exceptions; each is for one of its days", () -> {
      Calendarhall x = daily();
      for (int k = 1; k <= 10; k++) {
        int count = k;
        due(count, () -> x.leaveOut(0, 9 + count));
      }
      due(STATE, () -> x.leaveOut(0, 20));
      due(STATE, () -> x.move(0, 20, 30, 0));
      due(30 * DAY, () -> x.move(0, 19, 30, 0));
      due(10, () -> x.leaveOut(0, 19));
      due(10, () -> x.seriesAt(0, 12));
      due(9, () -> x.bringBack(0, 15));
      due(10, () -> x.leaveOut(0, 20));
      due(MISSING, () -> x.leaveOut(0, 9));
    });
  }

  private static Calendarhall withRule(int first, int kind, int step, int days, int place) {
    Calendarhall x = fresh();
    x.addSeries(0, first, 600, 30, 1, false);
    x.setRule(0, kind, step, days, place);
    return x;
  }

  private static void rules() {
    section("Terms 3");
    of("0 ONCE: the first day alone.", () -> {
      for (int first : new int[] {10, 77, 146000}) dueAllDays(withRule(first, 0, 0, 0, 0), first);
    });
    of("1 DAYS: the first day, and on, by step days each time.", () -> {
      dueDays(withRule(10, 1, 1, 0, 0), 10, 11, 12);
      dueDays(withRule(10, 1, 99, 0, 0), 10, 109, 208);
      dueAllDays(withRule(145902, 1, 99, 0, 0), 145902);
      dueAllDays(withRule(145901, 1, 99, 0, 0), 145901, 146000);
    });
    of("2 WEEKS: the days whose weekday is in a set", () -> {
      // The week of the day 20, a Friday, is 16 to 22.
      dueDays(withRule(20, 2, 1, 127, 0), 20, 21, 22, 23);
      dueDays(withRule(20, 2, 1, 16, 0), 20, 27);
      dueDays(withRule(20, 2, 1, 8, 0), 26, 33);
      dueDays(withRule(20, 2, 99, 9, 0), 16 + 7 * 99, 19 + 7 * 99, 16 + 14 * 99);
      dueDays(withRule(22, 2, 2, 65, 0), 22, 30, 36, 44);
      // The day 146000 is a Sunday.
      dueAllDays(withRule(145994, 2, 1, 65, 0), 145994, 146000);
      dueAllDays(withRule(145995, 2, 1, 1, 0));
    });
    of("3 MONTHS: in the month of the first day", () -> {
      dueDays(withRule(10, 3, 1, 0, 1), day(2000, 2, 1), day(2000, 3, 1));
      dueDays(withRule(10, 3, 1, 0, 11), 10, day(2000, 2, 11));
      dueDays(withRule(11, 3, 1, 0, 11), day(2000, 2, 11), day(2000, 3, 11));
      dueDays(withRule(10, 3, 99, 0, 31), 30, day(2016, 7, 31), day(2024, 10, 31), day(2033, 1, 31));
      dueDays(withRule(10, 3, 1, 0, -1), 30, day(2000, 2, 29), day(2000, 3, 31), day(2000, 4, 30));
      dueDays(withRule(10, 3, 1, 0, -2), 29, day(2000, 2, 28), day(2000, 3, 30));
      dueDays(withRule(10, 3, 12, 0, -20), 11, day(2001, 1, 12));
    });
    of("months that have no such day have none.", () -> {
      dueDays(withRule(10, 3, 1, 0, 31), 30, day(2000, 3, 31), day(2000, 5, 31), day(2000, 7, 31), day(2000, 8, 31));
      dueDays(withRule(10, 3, 1, 0, 30), 29, day(2000, 3, 30), day(2000, 4, 30));
      dueDays(withRule(40, 3, 12, 0, 29), day(2000, 2, 29), day(2004, 2, 29));
      dueAllDays(withRule(40, 3, 12, 0, 30));
      dueAllDays(withRule(40, 3, 12, 0, -30));
      dueDays(withRule(40, 3, 12, 0, -29), day(2004, 2, 1), day(2008, 2, 1));
      dueDays(withRule(10, 3, 1, 0, -31), day(2000, 3, 1), day(2000, 5, 1), day(2000, 7, 1), day(2000, 8, 1));
    });
    of("4 SETS: in the same months the place-th (1 to 5)", () -> {
      // Mondays of 2000: the 7th of February, the 6th of March; the last ones the 31st of January and the 28th of February.
      dueDays(withRule(10, 4, 1, 1, 1), day(2000, 2, 7), day(2000, 3, 6));
      dueDays(withRule(10, 4, 1, 1, -1), 30, day(2000, 2, 28), day(2000, 3, 27));
      dueDays(withRule(10, 4, 1, 127, 5), day(2000, 2, 5), day(2000, 3, 5));
      dueDays(withRule(10, 4, 1, 127, -5), 26, day(2000, 2, 25), day(2000, 3, 27));
      dueDays(withRule(10, 4, 2, 96, 2), day(2000, 3, 5), day(2000, 5, 7));
      dueDays(withRule(10, 4, 1, 31, -2), 27, day(2000, 2, 28), day(2000, 3, 30));
      dueDays(withRule(10, 4, 99, 64, 5), 29, day(2016, 7, 31));
    });
    of("months that have not so many have none.", () -> {
      // Five Mondays have January, May, July and October 2000.
      dueDays(withRule(10, 4, 1, 1, 5), 30, day(2000, 5, 29), day(2000, 7, 31), day(2000, 10, 30));
      dueDays(withRule(10, 4, 1, 1, -5), day(2000, 5, 1), day(2000, 7, 3), day(2000, 10, 2));
      // February has five of a weekday only in long years: of Tuesdays in 2000, and again in 2028.
      dueDays(withRule(40, 4, 12, 2, 5), day(2000, 2, 29), day(2028, 2, 29));
      dueDays(withRule(40, 4, 12, 2, 4), 52, day(2001, 2, 27));
    });
    of("5 YEARS: in the year of the first day", () -> {
      dueDays(withRule(10, 5, 1, 0, 0), 10, day(2001, 1, 11), day(2002, 1, 11));
      dueDays(withRule(365, 5, 2, 0, 0), 365, day(2002, 12, 31), day(2004, 12, 31));
      dueAllDays(withRule(10, 5, 99, 0, 0), 10, day(2099, 1, 11), day(2198, 1, 11), day(2297, 1, 11), day(2396, 1, 11));
    });
    of("years that have no such day have none.", () -> {
      dueDays(withRule(59, 5, 1, 0, 0), 59, day(2004, 2, 29), day(2008, 2, 29));
      dueDays(withRule(59, 5, 3, 0, 0), 59, day(2012, 2, 29));
      dueAllDays(withRule(59, 5, 99, 0, 0), 59, day(2396, 2, 29));
      dueDays(withRule(day(2096, 2, 29), 5, 4, 0, 0), day(2096, 2, 29), day(2104, 2, 29));
      dueAllDays(withRule(day(2396, 2, 29), 5, 1, 0, 0), day(2396, 2, 29));
    });
  }

  private static void daysOfSeries() {
    section("Terms 3");
    of("The days of a series are those of its rule that are not before the first day, and not behind the day 146000", () -> {
      dueAllDays(withRule(145999, 1, 1, 0, 0), 145999, 146000);
      dueAllDays(withRule(146000, 1, 1, 0, 0), 146000);
      // The week of the day 20 begins with the day 16, its month with the day 0, before the first day.
      dueDays(withRule(20, 2, 1, 1, 0), 23, 30);
      dueDays(withRule(20, 3, 1, 0, 20), day(2000, 2, 20));
      dueDays(withRule(19, 3, 1, 0, 20), 19, day(2000, 2, 20));
      dueDays(withRule(20, 4, 1, 127, 3), day(2000, 2, 3));
      // The day 146000 is the 26th of September 2399.
      dueAllDays(withRule(145990, 3, 1, 0, 26), 146000);
      dueAllDays(withRule(145990, 3, 1, 0, 27));
      dueAllDays(withRule(145990, 3, 1, 0, -5), 146000);
      dueAllDays(withRule(145990, 3, 1, 0, -4));
      dueAllDays(withRule(145990, 4, 1, 64, -1), 146000);
      dueAllDays(withRule(145990, 4, 1, 1, -1));
      dueAllDays(withRule(day(2398, 9, 26), 5, 1, 0, 0), day(2398, 9, 26), 146000);
      dueAllDays(withRule(day(2398, 9, 27), 5, 1, 0, 0), day(2398, 9, 27));
    });
    of("by its end all of these, or only the first ones, as many as a count (1 to 500)", () -> {
      Calendarhall x = withRule(10, 1, 2, 0, 0);
      x.setEnd(0, 1, 1);
      dueAllDays(x, 10);
      x.setEnd(0, 1, 3);
      dueAllDays(x, 10, 12, 14);
      x.setEnd(0, 1, 500);
      due(500, () -> x.countDays(0, 10, 146000));
      due(1008, () -> x.dayOfSeries(0, 499));
      due(MISSING, () -> x.dayOfSeries(0, 500));
      due(NONE, () -> x.nextDay(0, 1009));
      x.setEnd(0, 0, 0);
      due(72996, () -> x.countDays(0, 10, 146000));
      // A count that is not reached ahead of the day 146000, and one that counts no day before the first one.
      Calendarhall y = withRule(145999, 1, 1, 0, 0);
      y.setEnd(0, 1, 3);
      dueAllDays(y, 145999, 146000);
      Calendarhall z = withRule(20, 2, 1, 17, 0);
      z.setEnd(0, 1, 2);
      dueAllDays(z, 20, 23);
      range(1, 500, BAD, () -> full(), (h, count) -> h.setEnd(0, 1, count));
    });
    of("or only those that are not behind a last day.", () -> {
      Calendarhall x = withRule(10, 1, 2, 0, 0);
      x.setEnd(0, 2, 10);
      dueAllDays(x, 10);
      x.setEnd(0, 2, 13);
      dueAllDays(x, 10, 12);
      x.setEnd(0, 2, 14);
      dueAllDays(x, 10, 12, 14);
      // None, if the first of them is behind the last day.
      Calendarhall y = withRule(20, 2, 1, 1, 0);
      y.setEnd(0, 2, 22);
      dueAllDays(y);
      y.setEnd(0, 2, 23);
      dueAllDays(y, 23);
    });
    of("(The first day is one only if the rule holds of it.)", () -> {
      dueDays(withRule(20, 2, 1, 16, 0), 20);
      dueDays(withRule(20, 2, 1, 32, 0), 21);
      dueDays(withRule(20, 3, 1, 0, 21), 20);
      dueDays(withRule(20, 3, 1, 0, 22), 21);
      dueDays(withRule(30, 3, 1, 0, -1), 30);
      dueDays(withRule(29, 3, 1, 0, -1), 30);
      dueDays(withRule(20, 4, 1, 16, 3), 20);
      dueDays(withRule(20, 4, 1, 16, -2), 20);
      dueDays(withRule(20, 4, 1, 16, 4), 27);
      // Of a count the first day is none of the days that are counted then.
      Calendarhall x = withRule(20, 2, 1, 32, 0);
      x.setEnd(0, 1, 1);
      dueAllDays(x, 21);
      due(MISSING, () -> x.begin(0, 20));
    });
  }

  private static void dates() {
    section("Terms 3");
    of("For each day that is not left out there is a date of the series", () -> {
      Calendarhall x = daily();
      due(NONE + 1, () -> x.leaveOut(0, 11) - 1);
      due(NONE, () -> x.begin(0, 11));
      due(1, () -> x.countDates(0, FIRST, FIRST + 2 * DAY));
      due(25 * DAY, () -> x.move(0, 11, 25, 0));
      due(25 * DAY, () -> x.begin(0, 11));
      due(2, () -> x.countDates(0, 25 * DAY, 26 * DAY));
      x.bringBack(0, 11);
      due(11 * DAY + 600, () -> x.begin(0, 11));
    });
    of("and lasts the length of the series, in common minutes.", () -> {
      // From the minute ahead of each switch on: the clock that goes forth or back does not change it.
      Calendarhall x = fresh();
      x.setZone(0, 0, 60);
      x.addSeries(0, day(2000, 3, 26), 119, 90, 1, false);
      x.addSeries(0, day(2000, 10, 29), 119, 90, 1, false);
      int forth = day(2000, 3, 26) * DAY + 119, back = day(2000, 10, 29) * DAY + 59;
      for (int begin : new int[] {forth, back}) {
        due(0, () -> x.datesAt(0, begin - 1));
        due(1, () -> x.datesAt(0, begin));
        due(1, () -> x.datesAt(0, begin + 89));
        due(0, () -> x.datesAt(0, begin + 90));
        due(90, () -> x.minutesOf(0, begin - 300, begin + 300, 0));
      }
    });
    of("A date is on from its begin up to, but without, its end.", () -> {
      for (int length : new int[] {1, 600}) {
        Calendarhall x = daily();
        x.edit(0, 1, length);
        due(0, () -> x.datesAt(0, 14999));
        due(1, () -> x.datesAt(0, 15000));
        due(1, () -> x.datesAt(0, 15000 + length - 1));
        due(0, () -> x.datesAt(0, 15000 + length));
      }
    });
    of("Dates are in order by their begins, of like ones by the numbers of their series, then by their days.", () -> {
      // All rooms are taken in this order: begins first, then the series 0 ahead of the series 1, then the lower day.
      Calendarhall x = fresh();
      for (int n = 0; n < 2; n++) {
        x.addSeries(0, 10, 601 - n, 60, 1, true);
        x.setRule(n, 1, 1, 0, 0);
      }
      x.move(0, 12, 10, 601);
      x.move(1, 11, 10, 601);
      x.layRooms(FIRST, FIRST + DAY);
      int[][] order = {{1, 10}, {0, 10}, {0, 12}, {1, 11}};
      for (int k = 0; k < 4; k++) {
        int room = k;
        due(room, () -> x.roomOf(order[room][0], order[room][1]));
      }
      long sum = 17;
      for (int[] o : order) sum = 31 * (31 * sum + (o == order[0] ? 15000 : 15001)) + o[0];
      long want = sum;
      due(want, () -> x.checksum(FIRST, FIRST + DAY));
      due(10, () -> x.nextDate(0, FIRST));
      due(11, () -> x.nextDate(1, 15001));
    });
  }

  // ---- 4. People, rooms

  private static void people() {
    section("Terms 4");
    of("There are the people 0 to 7", () -> {
      With[] calls = {
        (x, p) -> x.setPerson(p, 0, 0, 0, 1), (x, p) -> x.answerOf(0, p), (x, p) -> x.counterOf(0, p), (x, p) -> x.datesAt(p, FIRST),
        (x, p) -> x.minutesOf(p, FIRST, FIRST + 1, 0), (x, p) -> x.clashes(p, FIRST, FIRST + 1), (x, p) -> x.busyShare(p, FIRST, FIRST + 1)
      };
      for (With call : calls) range(0, 7, OUT, () -> full(), call);
    });
    of("it is a work minute of the person if the weekday of the local minute in this zone is in the set", () -> {
      // An hour ahead of the common clock the Tuesday (day 10) ends at the common minute 1380 of it.
      Calendarhall x = fresh();
      x.setZone(1, 60, 0);
      x.setPerson(0, 1, 2, 0, 1440);
      due(1380, () -> x.minutesOf(0, FIRST, FIRST + DAY, 1));
      due(1, () -> x.minutesOf(0, FIRST + 1379, FIRST + 1380, 1));
      due(0, () -> x.minutesOf(0, FIRST + 1380, FIRST + 1381, 1));
      x.setPerson(0, 1, 4, 0, 1440);
      due(FIRST + 1380, () -> x.freeNext(1, FIRST, FIRST + 2 * DAY, 1, true));
      x.setPerson(0, 1, 0, 0, 1440);
      due(0, () -> x.minutesOf(0, FIRST, FIRST + 20160, 1));
    });
    of("the weekday of the local minute in this zone", () -> {
      // About a switch at the edges of a month; the other one is far away. Each minute is looked at for itself.
      int[][] switches = {{2000, 4, 1, 0}, {2000, 4, 1, 100}, {2000, 3, 31, 1439}, {2000, 3, 31, 1380}, {2000, 4, 1, 1300}, {2000, 4, 30, 1439},
        {2000, 5, 1, 0}, {2010, 12, 31, 1439}, {2011, 1, 1, 0}, {2011, 1, 1, 70}, {2399, 3, 31, 1400}, {2010, 11, 1, 30}};
      int[][] hours = {{0, 1440}, {0, 60}, {90, 200}, {1380, 1440}, {540, 1020}, {30, 1410}};
      for (int[] w : switches) for (boolean isForth : new boolean[] {true, false}) for (int shift : new int[] {15, 120}) {
        Calendarhall x = fresh();
        int day = day(w[0], w[1], w[2]);
        x.setSwitch(0, !isForth, 8, 1, 0, 0);
        x.setSwitch(0, isForth, w[1], w[2] == 1 ? 1 : 5, (day + 5) % 7, w[3]);
        x.setZone(0, 60, shift);
        for (int p = 0; p < hours.length; p++) {
          x.setPerson(p, 0, 63, hours[p][0], hours[p][1]);
          for (int at : new int[] {day * DAY - 2000, day * DAY - 130, day * DAY + 1250}) dueWork(x, p, hours[p], at, at + 3000, 60, day * DAY + w[3], isForth, shift);
        }
      }
    });
    of("and its minute of the day is not below from, and below to.", () -> {
      Calendarhall x = fresh();
      x.setPerson(0, 0, 127, 0, 1);
      x.setPerson(1, 0, 127, 1439, 1440);
      x.setPerson(2, 0, 127, 540, 541);
      int[][] of = {{0, 0}, {1, 1439}, {2, 540}};
      for (int[] o : of) {
        int at = FIRST + DAY + o[1];
        due(0, () -> x.minutesOf(o[0], at - 1, at, 1));
        due(1, () -> x.minutesOf(o[0], at, at + 1, 1));
        due(0, () -> x.minutesOf(o[0], at + 1, at + 2, 1));
        due(7, () -> x.minutesOf(o[0], FIRST, FIRST + 7 * DAY, 1));
      }
    });
    of("At first the zone is 0, the set 31, from 540 to 1020.", () -> {
      for (int k = 0; k < 8; k++) {
        int p = k;
        Calendarhall x = fresh();
        x.setZone(0, 15, 0);
        int day = FIRST - 15;
        due(0, () -> x.minutesOf(p, day + 539, day + 540, 1));
        due(1, () -> x.minutesOf(p, day + 540, day + 541, 1));
        due(1, () -> x.minutesOf(p, day + 1019, day + 1020, 1));
        due(0, () -> x.minutesOf(p, day + 1020, day + 1021, 1));
        // From Tuesday to Friday, and on Monday, but not on the 15th and 16th of January.
        due(5 * 480, () -> x.minutesOf(p, FIRST, FIRST + 7 * DAY, 1));
        due(0, () -> x.minutesOf(p, day + 4 * DAY, day + 6 * DAY, 1));
        due(0, () -> x.setPerson(p, 1, 0, 0, 1));
      }
    });
    of("A person of a series has an answer for it, and perhaps a counter-proposal, a minute of the day.", () -> {
      range(0, 1439, BAD, () -> full(), (x, minute) -> x.counter(0, 0, minute));
      Calendarhall x = daily();
      due(0, () -> x.answerOf(0, 0));
      due(NONE, () -> x.counterOf(0, 0));
      due(NONE, () -> x.answerOf(0, 1));
      due(NONE, () -> x.counterOf(0, 1));
    });
    of("Answers: 0 none yet (at first), 1 yes, 2 no, 3 maybe.", () -> {
      range(0, 3, BAD, () -> full(), (x, answer) -> x.answer(0, 0, answer));
      Calendarhall x = daily();
      due(Calendarhall.NOT_YET, () -> x.answer(0, 0, Calendarhall.YES));
      due(1, () -> x.answer(0, 0, Calendarhall.NO));
      due(2, () -> x.answer(0, 0, Calendarhall.MAYBE));
      due(3, () -> x.answer(0, 0, Calendarhall.NOT_YET));
      due(0, () -> x.answerOf(0, 0));
    });
    of("A person takes part in the dates of a series, if this is one of its people, and the answer is not no", () -> {
      Calendarhall x = daily();
      for (int k = 0; k < 4; k++) {
        int answer = k;
        x.answer(0, 0, answer);
        due(answer == 2 ? 0 : 1, () -> x.datesAt(0, 15000));
        due(answer == 2 ? 0 : 30, () -> x.minutesOf(0, FIRST, FIRST + DAY, 0));
      }
      due(0, () -> x.datesAt(1, 15000));
      due(0, () -> x.minutesOf(1, FIRST, FIRST + DAY, 0));
      // Each person for itself: all are invited, one says no.
      for (int k = 0; k < 8; k++) {
        Calendarhall y = daily();
        y.edit(0, 2, 255);
        y.answer(0, k, 2);
        for (int p = 0; p < 8; p++) {
          int person = p;
          due(p == k ? 0 : 1, () -> y.datesAt(person, 15000));
          due(p == k ? 0 : 30, () -> y.minutesOf(person, FIRST, FIRST + DAY, 0));
        }
      }
    });
    of("the person is busy at each minute at which one of these dates is on.", () -> {
      Calendarhall x = daily();
      due(0, () -> x.minutesOf(0, 14999, 15000, 0));
      due(1, () -> x.minutesOf(0, 15000, 15001, 0));
      due(1, () -> x.minutesOf(0, 15029, 15030, 0));
      due(0, () -> x.minutesOf(0, 15030, 15031, 0));
      // Two dates at once make a minute busy but once.
      x.addSeries(0, 10, 615, 30, 1, false);
      due(45, () -> x.minutesOf(0, FIRST, FIRST + DAY, 0));
      due(2, () -> x.datesAt(0, 15029));
    });
  }

  /** The work minutes from Monday to Saturday in a piece, when the clock is switched at a minute of the standard clock. */
  private static void dueWork(Calendarhall x, int person, int[] hours, int from, int to, int offset, int switchAt, boolean isForth, int shift) {
    int count = 0, first = NONE, run = 0;
    for (int m = from; m < to; m++) {
      int standard = m + offset;
      int local = (standard >= switchAt) == isForth ? standard + shift : standard;
      boolean isWork = (local / DAY + 5) % 7 != 6 && local % DAY >= hours[0] && local % DAY < hours[1];
      if (isWork) count++;
      run = isWork ? run + 1 : 0;
      if (run == 50 && first == NONE) first = m - 49;
    }
    int want = count, free = first;
    due(want, () -> x.minutesOf(person, from, to, 1));
    due(free, () -> x.freeNext(1 << person, from, to, 50, true));
  }

  private static void rooms() {
    section("Terms 4");
    of("There are the rooms 0 to 3, each in a building, 0 to 9; at first the room k is in the building k.", () -> {
      range(0, 3, OUT, () -> full(), (x, room) -> x.setRoom(room, 5));
      range(0, 9, BAD, () -> full(), (x, building) -> x.setRoom(2, building));
      for (int k = 0; k < 4; k++) {
        int room = k;
        due(room, () -> fresh().setRoom(room, 9));
      }
    });
    of("To go from a room to another one takes 5 minutes for each number by which their buildings differ.", () -> {
      // The second date has the room 1, as a third one (of nobody) holds it up; between the two are so many minutes.
      for (int differ = 0; differ <= 9; differ++) for (int sign = 0; sign < 2; sign++) for (int less = 0; less < 2; less++) {
        int between = 5 * differ - less;
        if (between < 0) continue;
        Calendarhall x = roomsApart(between, sign == 0 ? 0 : differ, sign == 0 ? differ : 0);
        due(less, () -> x.clashes(0, FIRST, FIRST + DAY));
      }
      for (int a = 1; a <= 9; a += 2) for (int b = 1; b <= 9; b += 4) {
        int way = 5 * Math.abs(a - b);
        Calendarhall x = roomsApart(way, a, b);
        due(0, () -> x.clashes(0, FIRST, FIRST + DAY));
        if (way == 0) continue;
        Calendarhall y = roomsApart(way - 1, a, b);
        due(1, () -> y.clashes(0, FIRST, FIRST + DAY));
      }
    });
    of("To lay rooms for a piece of time: the dates that need a room and begin in the piece get one, in their order", () -> {
      Calendarhall x = fresh();
      for (int n = 0; n < 3; n++) x.addSeries(0, 10, 600, 60, 0, n != 1);
      x.addSeries(0, 10, 500, 60, 0, true);
      due(0, () -> x.layRooms(14901, 15001));
      due(0, () -> x.roomOf(0, 10));
      due(MISSING, () -> x.roomOf(1, 10));
      due(1, () -> x.roomOf(2, 10));
      due(MISSING, () -> x.roomOf(3, 10));
      due(0, () -> x.layRooms(14900, 15000));
      due(0, () -> x.roomOf(3, 10));
      due(MISSING, () -> x.roomOf(0, 10));
    });
    of("the lowest room in which no date that got it in this way is on at the begin, or none, if there is no such room.", () -> {
      Calendarhall x = fresh();
      for (int n = 0; n < 5; n++) x.addSeries(0, 10, 600 + n, 60, 0, true);
      due(1, () -> x.layRooms(FIRST, FIRST + DAY));
      for (int k = 0; k < 4; k++) {
        int room = k;
        due(room, () -> x.roomOf(room, 10));
      }
      due(NONE, () -> x.roomOf(4, 10));
      // At the end of the first date its room is free; one minute before, it is not.
      x.edit(4, 0, 659);
      due(1, () -> x.layRooms(FIRST, FIRST + DAY));
      x.edit(4, 0, 660);
      due(0, () -> x.layRooms(FIRST, FIRST + DAY));
      due(0, () -> x.roomOf(4, 10));
      // Of several free rooms the lowest one, whichever was free first.
      x.edit(4, 0, 663);
      x.layRooms(FIRST, FIRST + DAY);
      due(0, () -> x.roomOf(4, 10));
      // Dates that began ahead of the piece hold no room.
      due(0, () -> x.layRooms(15002, FIRST + DAY));
      due(0, () -> x.roomOf(2, 10));
    });
    of("This is kept until rooms are laid anew: told by the number of the series and the day, whatever becomes of these.", () -> {
      Calendarhall x = daily();
      x.edit(0, 3, 1);
      x.layRooms(FIRST, FIRST + DAY);
      x.leaveOut(0, 10);
      due(0, () -> x.roomOf(0, 10));
      x.edit(0, 3, 0);
      due(0, () -> x.roomOf(0, 10));
      x.dropSeries(0);
      due(0, () -> x.roomOf(0, 10));
      x.addSeries(0, 20, 600, 30, 1, true);
      due(0, () -> x.roomOf(0, 10));
      x.layRooms(FIRST, FIRST + DAY);
      due(MISSING, () -> x.roomOf(0, 10));
    });
    of("Two dates in which a person takes part clash, if at some minute both are on", () -> {
      Calendarhall x = fresh();
      x.addSeries(0, 10, 600, 60, 3, false);
      x.addSeries(0, 10, 660, 60, 1, false);
      due(0, () -> x.clashes(0, FIRST, FIRST + DAY));
      x.edit(1, 0, 659);
      due(1, () -> x.clashes(0, FIRST, FIRST + DAY));
      x.edit(1, 0, 540);
      due(0, () -> x.clashes(0, FIRST, FIRST + DAY));
      x.edit(1, 0, 541);
      due(1, () -> x.clashes(0, FIRST, FIRST + DAY));
      due(0, () -> x.clashes(1, FIRST, FIRST + DAY));
      x.answer(1, 0, 2);
      due(0, () -> x.clashes(0, FIRST, FIRST + DAY));
    });
    of("if both got a room by the latest laying", () -> {
      due(1, () -> roomsApart(44, 0, 9).clashes(0, FIRST, FIRST + DAY));
      due(0, () -> roomsApart(45, 0, 9).clashes(0, FIRST, FIRST + DAY));
      // By the latest laying one of the two has none, as it needs none then, wherever the other one is.
      for (int building : new int[] {0, 9}) for (int k = 0; k < 2; k++) {
        int series = k;
        Calendarhall x = roomsApart(0, building, 9 - building);
        due(1, () -> x.clashes(0, FIRST, FIRST + DAY));
        x.edit(series, 3, 0);
        due(1, () -> x.clashes(0, FIRST, FIRST + DAY));
        x.layRooms(FIRST, FIRST + DAY);
        due(0, () -> x.clashes(0, FIRST, FIRST + DAY));
      }
      // Or as no room was left for it, though it needs one; all rooms are far from the building 0.
      Calendarhall y = fresh();
      for (int k = 0; k < 6; k++) y.addSeries(0, 10, k == 5 ? 660 : 600, 60, k == 0 || k == 5 ? 1 : 0, true);
      for (int k = 0; k < 4; k++) y.setRoom(k, 5 + k);
      y.edit(0, 0, 599);
      y.edit(5, 0, 658);
      due(2, () -> y.layRooms(FIRST, FIRST + DAY));
      y.edit(5, 0, 659);
      due(NONE, () -> y.roomOf(5, 10));
      due(0, () -> y.clashes(0, FIRST, FIRST + DAY));
    });
    of("(by dates and buildings as they are now)", () -> {
      Calendarhall x = roomsApart(10, 0, 2);
      due(0, () -> x.clashes(0, FIRST, FIRST + DAY));
      x.setRoom(1, 3);
      due(1, () -> x.clashes(0, FIRST, FIRST + DAY));
      x.edit(1, 0, 675);
      due(0, () -> x.clashes(0, FIRST, FIRST + DAY));
      x.edit(1, 0, 674);
      due(1, () -> x.clashes(0, FIRST, FIRST + DAY));
      x.undo();
      due(0, () -> x.clashes(0, FIRST, FIRST + DAY));
    });
  }

  /** Two dates of the person 0 with so many minutes between them, in the rooms 0 and 1, which are in these buildings. */
  private static Calendarhall roomsApart(int between, int building, int other) {
    Calendarhall x = fresh();
    x.addSeries(0, 10, 600, 60, 1, true);
    x.addSeries(0, 10, 660, 60, 1, true);
    x.addSeries(0, 10, 660, 60, 0, true);
    // As long as rooms are laid, the first date lasts a minute more, and the third one comes too late.
    x.edit(0, 1, 61);
    x.layRooms(FIRST, FIRST + DAY);
    x.edit(0, 1, 60);
    x.edit(1, 0, 660 + between);
    x.setRoom(0, building);
    x.setRoom(1, other);
    return x;
  }

  // ---- 5. Plans

  /** So many series of an hour at the minute 600 of the day 10, with the person 0. */
  private static Calendarhall atOnce(int count, int length) {
    Calendarhall x = fresh();
    for (int k = 0; k < count; k++) x.addSeries(0, 10, 600, length, 1, false);
    return x;
  }

  private static void duePlan(Calendarhall x, int... begins) {
    for (int k = 0; k < begins.length; k++) {
      int place = k;
      due(begins[k], () -> x.planAt(place, 2));
    }
    due(MISSING, () -> x.planAt(begins.length, 2));
  }

  private static void plans() {
    section("Terms 5");
    of("A plan is made for the dates of some series that begin in a piece of time, at most 5", () -> {
      Calendarhall x = daily();
      due(0, () -> x.plan(1, FIRST, FIRST + 5 * DAY));
      duePlan(x, 15000, 16440, 17880, 19320, 20760);
      due(STATE, () -> x.plan(1, FIRST, FIRST + 6 * DAY));
      due(STATE, () -> x.plan(1, 15000, FIRST + 5 * DAY + 601));
      due(0, () -> x.plan(1, 15000, FIRST + 5 * DAY + 600));
      due(0, () -> x.plan(1, 15001, 15002));
      duePlan(x);
    });
    of("each one keeps its begin, or is moved by 30, 60, 90 or 120 minutes, earlier or later", () -> {
      // Two of the same length at the same minute must be as far from one another as they are long: at most 240.
      int[][] due = {{1, 30}, {30, 30}, {31, 60}, {60, 60}, {61, 90}, {90, 90}, {91, 120}, {120, 120}, {121, 150}, {180, 180}, {181, 210}, {211, 240}, {240, 240}};
      for (int[] d : due) due(d[1], () -> atOnce(2, d[0]).plan(3, FIRST, FIRST + DAY));
      due(NONE, () -> atOnce(2, 241).plan(3, FIRST, FIRST + DAY));
      for (int length : new int[] {30, 60, 90, 120}) {
        // The first one that much earlier; or, where it cannot, the second one that much later.
        Calendarhall y = atOnce(2, length);
        y.plan(3, FIRST, FIRST + DAY);
        duePlan(y, 15000 - length, 15000);
        y.plan(3, 15000, FIRST + DAY);
        duePlan(y, 15000, 15000 + length);
      }
      Calendarhall x = atOnce(2, 240);
      x.plan(3, FIRST, FIRST + DAY);
      duePlan(x, 14880, 15120);
    });
    of("such that it still begins in the piece", () -> {
      Calendarhall x = atOnce(2, 60);
      due(60, () -> x.plan(3, 14940, 15001));
      duePlan(x, 14940, 15000);
      due(60, () -> x.plan(3, 14941, 15061));
      duePlan(x, 14970, 15030);
      due(60, () -> x.plan(3, 14971, 15061));
      duePlan(x, 15000, 15060);
      due(NONE, () -> x.plan(3, 14971, 15060));
      due(NONE, () -> x.plan(3, 14941, 15030));
    });
    of("two of them in which some person takes part in both may not be on at the same minute", () -> {
      Calendarhall x = atOnce(2, 60);
      x.edit(1, 2, 2);
      due(0, () -> x.plan(3, FIRST, FIRST + DAY));
      x.edit(1, 2, 3);
      due(60, () -> x.plan(3, FIRST, FIRST + DAY));
      x.answer(1, 0, 2);
      due(0, () -> x.plan(3, FIRST, FIRST + DAY));
      x.answer(1, 0, 0);
      // One ends at the minute at which the other one begins.
      x.edit(1, 0, 660);
      due(0, () -> x.plan(3, FIRST, FIRST + DAY));
      x.edit(1, 0, 659);
      due(30, () -> x.plan(3, FIRST, FIRST + DAY));
      // Also if the second one comes ahead of the first one, and ends at its begin.
      Calendarhall z = atOnce(2, 60);
      z.edit(1, 1, 30);
      due(30, () -> z.plan(3, FIRST, FIRST + DAY));
      duePlan(z, 15000, 14970);
      z.edit(1, 1, 31);
      due(60, () -> z.plan(3, FIRST, FIRST + DAY));
      // Of one series, too.
      Calendarhall y = daily();
      y.move(0, 11, 10, 629);
      due(30, () -> y.plan(1, FIRST, FIRST + DAY));
      duePlan(y, 14970, 15029);
    });
    of("other dates do not matter.", () -> {
      Calendarhall x = atOnce(3, 60);
      due(60, () -> x.plan(3, FIRST, FIRST + DAY));
      x.edit(2, 0, 540);
      due(60, () -> x.plan(3, FIRST, FIRST + DAY));
      duePlan(x, 14940, 15000);
      due(0, () -> x.plan(1, FIRST, FIRST + DAY));
    });
    of("Of all that do so, the plan is the one with the fewest minutes by which dates are moved, in all", () -> {
      Calendarhall x = atOnce(3, 60);
      due(120, () -> x.plan(7, FIRST, FIRST + DAY));
      Calendarhall y = atOnce(5, 60);
      due(360, () -> y.plan(31, FIRST, FIRST + DAY));
      duePlan(y, 14880, 14940, 15000, 15060, 15120);
      due(NONE, () -> atOnce(5, 61).plan(31, FIRST, FIRST + DAY));
    });
    of("of like ones the one by which the first date (in their order) begins earlier, then the second one, and so on.", () -> {
      Calendarhall x = atOnce(2, 60);
      // By 60 in all: the first one by 60 earlier, or both by 30, or the second one by 60, or the other way round.
      x.plan(3, FIRST, FIRST + DAY);
      duePlan(x, 14940, 15000);
      Calendarhall y = atOnce(3, 30);
      due(60, () -> y.plan(7, FIRST, FIRST + DAY));
      duePlan(y, 14970, 15000, 15030);
      Calendarhall z = atOnce(3, 60);
      z.plan(7, FIRST, FIRST + DAY);
      duePlan(z, 14940, 15000, 15060);
    });
    of("It is kept until the next one is made.", () -> {
      Calendarhall x = atOnce(2, 60);
      x.plan(3, FIRST, FIRST + DAY);
      x.dropSeries(0);
      x.edit(1, 0, 0);
      duePlan(x, 14940, 15000);
      due(0, () -> x.plan(2, FIRST, FIRST + DAY));
      duePlan(x, 14400);
      // Also the next one that cannot be made; but not one that is refused.
      due(BAD, () -> x.plan(0, FIRST, FIRST + DAY));
      duePlan(x, 14400);
      x.addSeries(0, 10, 0, 600, 1, false);
      x.edit(1, 1, 600);
      due(NONE, () -> x.plan(3, FIRST, FIRST + DAY));
      due(MISSING, () -> x.planAt(0, 0));
    });
  }

  // ---- 6. Reminders

  private static void reminders() {
    section("Terms 6");
    of("The clock of the hall tells a common minute, 14400 at first; it goes on by pass() alone.", () -> {
      due(14400, () -> fresh().now());
      due(14420, () -> full().now());
      Calendarhall x = full();
      x.snooze(0, 5);
      x.remind(0, 7);
      x.move(0, 12, 30, 0);
      due(14420, () -> x.now());
      x.pass(1);
      due(14421, () -> x.now());
      x.pass(1440);
      due(15861, () -> x.now());
    });
    of("There are at most 10 reminders, numbered 0 to 9; a new one gets the least number that none has.", () -> {
      Calendarhall x = daily();
      for (int k = 0; k < 10; k++) {
        int number = k;
        due(number, () -> x.remind(0, 0));
      }
      due(STATE, () -> x.remind(0, 0));
      for (int k : new int[] {9, 0, 4}) x.forget(k);
      for (int k : new int[] {0, 4, 9}) {
        int number = k;
        due(number, () -> x.remind(0, 0));
      }
      due(STATE, () -> x.remind(0, 0));
      due(OUT, () -> x.nextRing(10));
      due(OUT, () -> x.nextRing(-1));
    });
    of("A reminder is for a series, by some minutes ahead (0 to 1440): it rings, for each date of the series, so many minutes before its begin.", () -> {
      Calendarhall x = daily();
      x.remind(0, 0);
      x.remind(0, 1440);
      due(15000, () -> x.nextRing(0));
      // The ring for the day 10 would have been at 13560: the first one behind the clock is that for the day 11.
      due(15000, () -> x.nextRing(1));
      x.leaveOut(0, 11);
      due(16440, () -> x.nextRing(1));
      x.move(0, 12, 10, 1439);
      due(15000 + 2 * DAY, () -> x.nextRing(1));
      due(15000, () -> x.nextRing(0));
      range(0, 1440, BAD, () -> full(), (h, ahead) -> h.remind(0, ahead));
    });
    of("all rings behind the first one up to the second one come, by the series as they are now", () -> {
      Calendarhall x = daily();
      x.remind(0, 600);
      // At the minute 14400 itself, the first one, none comes; at the second one it does.
      due(0, () -> x.pass(1439));
      due(1, () -> x.pass(1));
      due(0, () -> x.pass(1439));
      due(1, () -> x.pass(1));
      // A date that is moved behind the clock rings (once more); one that is moved to the clock does not.
      x.move(0, 10, 12, 601);
      due(1, () -> x.pass(1));
      x.move(0, 11, 12, 601);
      due(0, () -> x.pass(1));
      due(1, () -> x.pass(1440));
      due(1, () -> x.pass(1440));
    });
    of("by their minutes, of like ones by the number of the reminder, then by the day, then those that were not snoozed ahead of those that were.", () -> {
      Calendarhall x = daily();
      x.move(0, 10, 10, 10);
      x.remind(0, 0);
      x.remind(0, 0);
      x.pass(10);
      // Both are snoozed to 14500; the dates 10, 12 and 11 come then, and one a minute earlier.
      x.snooze(1, 90);
      x.snooze(0, 90);
      x.move(0, 12, 10, 100);
      x.move(0, 11, 10, 100);
      x.move(0, 10, 10, 100);
      x.move(0, 13, 10, 99);
      due(10, () -> x.pass(90));
      int[][] want = {{0, 13, 14499, 0}, {1, 13, 14499, 0}, {0, 10, 14500, 0}, {0, 10, 14500, 1}, {0, 11, 14500, 0}, {0, 12, 14500, 0},
        {1, 10, 14500, 0}, {1, 10, 14500, 1}, {1, 11, 14500, 0}, {1, 12, 14500, 0}};
      for (int k = 0; k < want.length; k++) for (int w = 0; w < 4; w++) {
        int ring = k + 2, what = w;
        due(want[k][w], () -> x.ringAt(ring, what));
      }
    });
    of("The latest 30 rings are kept, numbered from 0, the eldest first.", () -> {
      Calendarhall x = daily();
      x.remind(0, 0);
      for (int k = 0; k < 30; k++) x.pass(1440);
      due(30, () -> x.rings());
      due(10, () -> x.ringAt(0, 1));
      due(39, () -> x.ringAt(29, 1));
      x.pass(1440);
      due(30, () -> x.rings());
      due(11, () -> x.ringAt(0, 1));
      due(40, () -> x.ringAt(29, 1));
      due(OUT, () -> x.ringAt(30, 1));
      due(OUT, () -> x.ringAt(-1, 1));
    });
    of("A ring that is kept can be snoozed: then it comes once more, so many minutes behind the present one, whatever becomes of the reminder and its series.", () -> {
      Calendarhall x = daily();
      x.remind(0, 0);
      x.pass(700);
      // By the present minute, 15100, not by that at which it came.
      due(15105, () -> x.snooze(0, 5));
      x.forget(0);
      x.dropSeries(0);
      due(0, () -> x.pass(4));
      due(1, () -> x.pass(1));
      due(0, () -> x.pass(1440));
      int[] want = {0, 10, 15105, 1};
      for (int k = 0; k < 4; k++) {
        int what = k;
        due(want[k], () -> x.ringAt(1, what));
      }
      due(2, () -> x.rings());
      due(OUT, () -> x.snooze(2, 5));
    });
  }

  // ---- 7. Devices

  private static void devices() {
    section("Terms 7");
    of("There are the devices 0 and 1.", () -> {
      range(0, 1, OUT, () -> full(), (x, device) -> x.change(device, 0, 0, 0));
      range(0, 1, OUT, () -> full(), (x, device) -> x.deliver(device, 0));
      range(0, 1, OUT, () -> full(), (x, device) -> x.shown(device, 0, 0));
    });
    of("A change is made on a device: a field (0 to 3) of a number (0 to 11) gets a value (0 to 999).", () -> {
      range(0, 3, BAD, () -> full(), (x, field) -> x.change(0, 0, field, 0));
      range(0, 11, BAD, () -> full(), (x, number) -> x.change(0, number, 0, 0));
      range(0, 999, BAD, () -> full(), (x, value) -> x.change(0, 0, 0, value));
    });
    of("Each device has a clock, 0 at first: a change gets the clock of the device and 1 more, and this becomes the clock of the device.", () -> {
      Calendarhall x = fresh();
      due(1, () -> x.change(0, 0, 0, 0));
      due(2, () -> x.change(0, 1, 1, 1));
      due(1, () -> x.change(1, 0, 0, 0));
      due(2, () -> x.deliver(1, 0));
    });
    of("When a change comes to the other device, whose clock is less, that clock becomes the clock of the change.", () -> {
      Calendarhall x = fresh();
      for (int k = 0; k < 3; k++) x.change(0, 0, 0, k);
      due(1, () -> x.change(1, 0, 0, 9));
      // Its clock is 1: a like one and a less one change nothing.
      due(1, () -> x.deliver(0, 0));
      due(2, () -> x.deliver(0, 1));
      due(2, () -> x.deliver(0, 0));
      due(3, () -> x.deliver(0, 2));
      due(4, () -> x.change(1, 0, 0, 9));
      due(3, () -> x.deliver(1, 0));
      due(4, () -> x.deliver(1, 1));
      due(5, () -> x.change(0, 0, 0, 9));
    });
    of("What a device shows for a field is the value of that change of it", () -> {
      Calendarhall x = fresh();
      x.change(0, 5, 2, 10);
      x.change(0, 5, 2, 11);
      x.change(1, 5, 2, 20);
      due(11, () -> x.shown(0, 5, 2));
      due(20, () -> x.shown(1, 5, 2));
      // The clock 2 is greater than 1; what comes late does not count.
      x.deliver(0, 1);
      due(11, () -> x.shown(1, 5, 2));
      x.deliver(0, 0);
      due(11, () -> x.shown(1, 5, 2));
      x.deliver(1, 0);
      due(11, () -> x.shown(0, 5, 2));
      due(NONE, () -> x.shown(0, 5, 1));
      due(NONE, () -> x.shown(0, 4, 2));
    });
    of("of like ones the one that was made on the device 1.", () -> {
      for (int k = 0; k < 2; k++) {
        Calendarhall x = fresh();
        x.change(k, 0, 0, 100 + k);
        x.change(1 - k, 0, 0, 101 - k);
        due(100, () -> x.shown(0, 0, 0));
        due(101, () -> x.shown(1, 0, 0));
        x.deliver(0, 0);
        due(101, () -> x.shown(1, 0, 0));
        x.deliver(1, 0);
        due(101, () -> x.shown(0, 0, 0));
        x.deliver(0, 0);
        due(101, () -> x.shown(1, 0, 0));
      }
    });
    of("Each device keeps its own changes, at most 40, numbered from 0.", () -> {
      for (int k = 0; k < 2; k++) {
        int device = k;
        Calendarhall x = fresh();
        due(OUT, () -> x.deliver(device, 0));
        for (int c = 0; c < 40; c++) x.change(device, 0, 0, c);
        due(STATE, () -> x.change(device, 0, 0, 0));
        due(1, () -> x.deliver(device, 0));
        due(40, () -> x.deliver(device, 39));
        due(39, () -> x.shown(1 - device, 0, 0));
        due(OUT, () -> x.deliver(device, 40));
        due(OUT, () -> x.deliver(device, -1));
        // What came from the other device is none of its own.
        due(OUT, () -> x.deliver(1 - device, 0));
        due(41, () -> x.change(1 - device, 0, 0, 0));
      }
    });
    of("What is changed on devices has nothing to do with the series.", () -> {
      Calendarhall x = daily();
      x.change(0, 0, 0, 999);
      due(600, () -> x.seriesAt(0, 2));
      x.dropSeries(0);
      due(999, () -> x.shown(0, 0, 0));
      due(2, () -> x.change(0, 11, 3, 1));
      due(OUT, () -> x.seriesAt(11, 0));
    });
  }

  // ---- 8. Text

  /** The place of the error of a text. */
  private static void dueError(int want, String text) {
    Calendarhall x = fresh();
    type(x, text);
    due("\"" + text + "\" " + want, () -> "\"" + text + "\" " + x.errorPlace());
  }

  /** What a series (of the first day 20) is by a text: kind, step, days, place, how, number. */
  private static void dueRead(String text, int... want) {
    Calendarhall x = fresh();
    x.addSeries(0, 20, 600, 30, 0, false);
    type(x, text);
    due(want[0], () -> x.readRule(0));
    for (int k = 0; k < 6; k++) {
      int what = k + 6;
      due(want[k], () -> x.seriesAt(0, what));
    }
  }

  private static void tokens() {
    section("Terms 8");
    of("The text has at most 120 bytes.", () -> {
      Calendarhall x = fresh();
      for (int k = 0; k < 15; k++) x.type(0x2020202020202020L);
      due(STATE, () -> x.type(32));
      due(120, () -> x.type(0));
      due(120, () -> x.errorPlace());
      due(120, () -> x.clearText());
      for (int k = 0; k < 119; k++) x.type(32);
      due(STATE, () -> x.type(0x2020));
      due(120, () -> x.type(0x2000));
      // A rule that fills it.
      String days = "every 22 weeks on" + " su".repeat(30);
      dueError(NONE, days + " until 146000");
      dueError(114, days + " until 146001");
      dueRead(days + "      for 500", 2, 22, 64, 0, 1, 500);
    });
    of("Its tokens are words (longest rows of letters a to z) and numbers (longest rows of digits); blanks (32) may stand between them, ahead and behind.", () -> {
      dueError(NONE, "once");
      dueError(NONE, "   once   ");
      dueError(NONE, "every2days");
      dueError(NONE, "every 2days for3");
      dueError(0, "everydays");
      dueError(6, "every daysfor 3");
      dueError(0, "on ce");
      dueError(8, "every 1 2 days");
      dueError(6, "every day s");
      // Signs next to those of tokens: ahead of a and behind z, ahead of 0 and behind 9, next to the blank.
      for (int sign : new int[] {1, 9, 10, 13, 31, 33, '/', ':', '@', 'A', 'Z', '[', '`', '{', 127, 128, 160, 255}) {
        dueError(4, "once" + (char) sign);
        dueError(0, (char) sign + "once");
        dueError(6, "every " + (char) sign);
      }
      dueError(0, "a");
      dueError(0, "z");
      dueError(0, "0");
      dueError(0, "9");
    });
    of("A DAY that was told already is taken as told once.", () -> {
      dueRead("every weeks on mo mo", 2, 1, 1, 0, 0, 0);
      dueRead("every weeks on su mo su we mo", 2, 1, 69, 0, 0, 0);
      dueRead("every months on last fr fr fr", 4, 1, 16, -1, 0, 0);
    });
    of("The error is the first byte of the first token that does not fit", () -> {
      dueError(0, "never");
      for (String word : new String[] {"xnce", "oxce", "oncx", "oncez", "oncea", "aonce", "zonce", "avery days", "everz days"}) dueError(0, word);
      for (String unit : new String[] {"xays", "dayx", "daysz", "zdays", "weeksa on mo", "xonths on 1", "yearss"}) dueError(6, "every " + unit);
      dueError(5, "once xor 1");
      dueError(5, "once fors 1");
      dueError(5, "once untilz 99");
      dueError(6, "every second days");
      dueError(11, "every days once");
      dueError(5, "once on");
      dueError(12, "every weeks mo");
      dueError(15, "every weeks on first mo");
      dueError(18, "every weeks on mo fri");
      dueError(12, "every years on mo");
      dueError(13, "once   for 5 6");
    });
    of("(a number out of its range does not fit, and a byte that is of no token is one)", () -> {
      dueError(6, "every 0 days");
      dueError(6, "every 100 days");
      dueError(6, "every 4294967298 days");
      dueError(6, "every 18446744073709551618 days");
      dueError(16, "every months on 0");
      dueError(16, "every months on 32");
      dueError(9, "once for 0");
      dueError(9, "once for 501");
      dueError(9, "once for 4294967297");
      dueError(11, "once until 9");
      dueError(11, "once until 146001");
      dueError(11, "once until 4294967396");
      dueError(11, "once until 99999999999999999999");
      dueError(6, "every -1 days");
      dueError(6, "every +1 days");
      dueError(7, "every 1.5 days");
      dueError(NONE, "every 000000000000000000099 days");
      dueError(9, "once for 000000000000000000000");
    });
    of("or the length of the text, if it ends too early.", () -> {
      String[] early = {"", " ", "every", "every ", "every 5", "every 5   ", "every weeks", "every weeks on", "every months", "every months on",
        "every months on first", "every months on fifth ", "once for", "once until", "every days for  "};
      for (String text : early) dueError(text.length(), text);
    });
  }

  private static void grammar() {
    section("Terms 8");
    namesNoEdge("It follows these rules:");
    of("text = rule [ end ]", () -> {
      dueRead("once", 0, 0, 0, 0, 0, 0);
      dueRead("once for 1", 0, 0, 0, 0, 1, 1);
      dueError(0, "for 1");
      dueError(11, "once for 1 for 1");
      dueError(11, "once for 1 until 50");
    });
    of("rule = \"once\" | \"every\" [ NUMBER ] unit", () -> {
      dueRead("every days", 1, 1, 0, 0, 0, 0);
      dueRead("every 1 days", 1, 1, 0, 0, 0, 0);
      dueError(5, "once days");
      dueError(0, "days");
      dueError(0, "2 days");
      dueError(8, "every 2 3 days");
      dueError(6, "every every days");
    });
    of("unit = \"days\" | \"weeks\" \"on\" DAY { DAY } | \"months\" \"on\" which | \"years\"", () -> {
      dueRead("every days", 1, 1, 0, 0, 0, 0);
      dueRead("every years", 5, 1, 0, 0, 0, 0);
      dueRead("every weeks on su", 2, 1, 64, 0, 0, 0);
      dueRead("every weeks on mo tu we th fr sa su", 2, 1, 127, 0, 0, 0);
      dueRead("every months on 5", 3, 1, 0, 5, 0, 0);
      dueError(11, "every days on mo");
      dueError(11, "every weeks");
      dueError(15, "every weeks on for 3");
      dueError(13, "every months 5");
      dueError(16, "every months on fr");
      dueError(6, "every month on 5");
    });
    of("which = NUMBER | \"last\" [ DAY { DAY } ] | ORDINAL DAY { DAY }", () -> {
      dueRead("every months on last", 3, 1, 0, -1, 0, 0);
      dueRead("every months on last su", 4, 1, 64, -1, 0, 0);
      dueRead("every months on last su mo", 4, 1, 65, -1, 0, 0);
      dueRead("every months on second su", 4, 1, 64, 2, 0, 0);
      dueRead("every months on second su mo for 3", 4, 1, 65, 2, 1, 3);
      dueError(18, "every months on 5 mo");
      dueError(23, "every months on second 5");
      dueError(23, "every months on second for 3");
      dueError(21, "every months on last 5");
      dueError(21, "every months on last last");
      dueError(22, "every months on first last mo");
    });
    of("end = \"for\" NUMBER | \"until\" NUMBER", () -> {
      dueRead("every days for 2", 1, 1, 0, 0, 1, 2);
      dueRead("every days until 20", 1, 1, 0, 0, 2, 20);
      dueError(15, "every days for mo");
      dueError(17, "every days until for");
      dueError(11, "every days 5");
    });
    of("DAY is one of mo, tu, we, th, fr, sa, su; ORDINAL one of first, second, third, fourth, fifth.", () -> {
      String[] days = {"mo", "tu", "we", "th", "fr", "sa", "su"};
      String[] ordinals = {"first", "second", "third", "fourth", "fifth"};
      for (int k = 0; k < 7; k++) dueRead("every weeks on " + days[k], 2, 1, 1 << k, 0, 0, 0);
      for (int k = 0; k < 5; k++) dueRead("every months on " + ordinals[k] + " tu", 4, 1, 2, k + 1, 0, 0);
      for (String wrong : new String[] {"m", "mon", "ma", "om", "to", "o", "us", "tue", "ut"}) dueError(15, "every weeks on " + wrong);
      for (String wrong : new String[] {"sixth mo", "zeroth mo", "firs mo", "firstly mo", "thirds mo", "fivth mo", "lasts mo", "las mo"}) dueError(16, "every months on " + wrong);
    });
    of("The NUMBER behind every is the step (1 to 99; without it the step is 1)", () -> {
      dueRead("every 1 years", 5, 1, 0, 0, 0, 0);
      dueRead("every 99 years", 5, 99, 0, 0, 0, 0);
      dueRead("every years", 5, 1, 0, 0, 0, 0);
      dueError(6, "every 0 years");
      dueError(6, "every 100 years");
    });
    of("on NUMBER is the day of the month (1 to 31), on last alone the last day (MONTHS by -1), with DAYs the place -1", () -> {
      dueRead("every months on 1", 3, 1, 0, 1, 0, 0);
      dueRead("every months on 31", 3, 1, 0, 31, 0, 0);
      dueRead("every months on last for 7", 3, 1, 0, -1, 1, 7);
      dueRead("every months on last mo for 7", 4, 1, 1, -1, 1, 7);
      dueError(16, "every months on 0");
      dueError(16, "every months on 32");
    });
    of("for NUMBER is a count (1 to 500), until NUMBER a last day (10 to 146000, not before the first day of the series).", () -> {
      dueRead("once for 1", 0, 0, 0, 0, 1, 1);
      dueRead("once for 500", 0, 0, 0, 0, 1, 500);
      dueRead("once until 20", 0, 0, 0, 0, 2, 20);
      dueRead("once until 146000", 0, 0, 0, 0, 2, 146000);
      dueError(9, "once for 0");
      dueError(9, "once for 501");
      dueError(11, "once until 9");
      dueError(NONE, "once until 10");
      dueError(NONE, "once until 146000");
      dueError(11, "once until 146001");
      for (int day : new int[] {10, 19, 146001}) {
        Calendarhall x = fresh();
        x.addSeries(0, 20, 600, 30, 0, false);
        type(x, "once until " + day);
        due(BAD, () -> x.readRule(0));
      }
    });
    of("A rule and its end are written by these rules, with one blank between two tokens, a step of 1 left out, DAYs in the order of the week.", () -> {
      dueWritten("once", 0, 0, 0, 0, 0, 0);
      dueWritten("every days", 1, 1, 0, 0, 0, 0);
      dueWritten("every 2 days for 1", 1, 2, 0, 0, 1, 1);
      dueWritten("every 99 years until 20", 5, 99, 0, 0, 2, 20);
      dueWritten("every weeks on mo tu we th fr sa su for 500", 2, 1, 127, 0, 1, 500);
      dueWritten("every months on 1", 3, 1, 0, 1, 0, 0);
      dueWritten("every months on 31 until 146000", 3, 1, 0, 31, 2, 146000);
      dueWritten("every months on last", 3, 1, 0, -1, 0, 0);
      dueWritten("every months on last mo su", 4, 1, 65, -1, 0, 0);
      dueWritten("every 10 months on first th", 4, 10, 8, 1, 0, 0);
      dueWritten("every months on fifth mo tu we th fr sa su", 4, 1, 127, 5, 0, 0);
      dueWritten("once until 20", 0, 0, 0, 0, 2, 20);
    });
    of("(MONTHS by -2 and less, and SETS by -2 and less, are written with the words \"end\"", () -> {
      dueWritten("every months on end 2", 3, 1, 0, -2, 0, 0);
      dueWritten("every months on end 31 for 7", 3, 1, 0, -31, 1, 7);
      dueWritten("every months on end 2 mo", 4, 1, 1, -2, 0, 0);
      dueWritten("every 3 months on end 5 sa su until 99", 4, 3, 96, -5, 2, 99);
      dueError(16, "every months on end 2");
      dueError(16, "every months on end 2 mo");
    });
  }

  private static void dueWritten(String want, int kind, int step, int days, int place, int how, int number) {
    Calendarhall x = fresh();
    x.addSeries(0, 20, 600, 30, 0, false);
    x.setRule(0, kind, step, days, place);
    x.setEnd(0, how, number);
    due(want.length(), () -> x.write(0));
    due(want, () -> written(x, 0));
  }

  // ---- 9. Changes, exceptions

  /** A call of each kind of change, that a full hall takes. */
  private static final Call[] CHANGES = {
    x -> x.setZone(0, 15, 0), x -> x.setZone(1, 60, 0), x -> x.setSwitch(1, true, 4, 1, 0, 0), x -> x.setSwitch(1, false, 11, 5, 0, 0),
    x -> x.setPerson(0, 1, 1, 1, 2), x -> x.setRoom(0, 9), x -> x.addSeries(0, 10, 0, 1, 0, false), x -> x.dropSeries(1), x -> x.setRule(1, 0, 0, 0, 0), x -> x.setEnd(1, 1, 1), x -> x.readRule(1),
    x -> x.edit(1, 1, 1), x -> x.leaveOut(1, 11), x -> x.move(1, 11, 12, 0), x -> x.bringBack(0, 14), x -> x.fromHere(0, 12, 5, 5), x -> x.fromHere(1, 12, 5, 5),
    x -> x.answer(0, 0, 2), x -> x.counter(0, 0, 5), x -> x.accept(0, 1), x -> x.remind(0, 5), x -> x.forget(1), x -> x.pass(1), x -> x.pass(1440), x -> x.snooze(0, 5),
    x -> x.change(0, 0, 0, 5), x -> x.deliver(0, 0), x -> x.applyPlan()
  };

  /** The same kinds of changes, such that nothing is different afterwards; the others always change something. */
  private static final Call[] EMPTY_CHANGES = {
    x -> x.setZone(0, 0, 0), x -> x.setSwitch(0, true, 3, 5, 6, 120), x -> x.setPerson(0, 0, 31, 540, 1020), x -> x.setRoom(0, 0),
    x -> x.setRule(2, 0, 0, 0, 0), x -> x.setEnd(2, 0, 0), x -> x.edit(0, 0, 10), x -> x.leaveOut(0, 14), x -> x.move(0, 13, 20, 600),
    x -> x.answer(0, 2, 3), x -> x.counter(0, 1, 300), x -> x.deliver(1, 0)
  };

  /** Calls that are no changes, though some keep something else than before. */
  private static final Call[] QUESTIONS = {
    x -> x.clashes(0, FIRST, FIRST + DAY), x -> x.layRooms(FIRST, FIRST + DAY), x -> x.plan(1, FIRST, FIRST + DAY), x -> x.type(65), x -> x.clearText(), x -> x.write(0),
    x -> x.now(), x -> x.nextRing(0), x -> x.best(1, FIRST, FIRST + DAY, 60, false), x -> x.errors(), x -> x.checksum(FIRST, FIRST + DAY)
  };

  private static void undoing() {
    section("Terms 9");
    of("The calls under \"Changes\" are changes if they throw no exception, even if nothing is different afterwards.", () -> {
      for (Call[] row : new Call[][] {CHANGES, EMPTY_CHANGES}) for (Call call : row) {
        // Of the eight changes that a full hall can undo, each passed a minute; the eldest one makes place.
        Calendarhall x = full();
        taken(() -> call.on(x));
        for (int left = 7; left >= 0; left--) {
          int count = left;
          due(count, () -> x.undo());
          due(14413 + count, () -> x.now());
        }
      }
      for (Call call : QUESTIONS) {
        Calendarhall x = full();
        taken(() -> call.on(x));
        due(7, () -> x.undo());
        due(14419, () -> x.now());
      }
    });
    of("The latest 8 changes can be undone", () -> {
      for (int changes = 0; changes <= 10; changes++) {
        Calendarhall x = fresh();
        for (int k = 0; k < changes; k++) x.pass(1);
        int most = Math.min(changes, 8);
        for (int left = most - 1; left >= 0; left--) {
          int count = left;
          due(count, () -> x.undo());
        }
        due(STATE, () -> x.undo());
        due(FIRST + changes - most, () -> x.now());
      }
    });
    of("zones, series, people, rooms, answers, the clock, reminders, rings and devices are then as they were ahead of the change.", () -> {
      for (Call call : CHANGES) {
        Calendarhall x = full();
        Calendarhall y = full();
        taken(() -> call.on(x));
        x.undo();
        // In the other hall a change by which nothing is different is undone, so that both can undo the same.
        y.setRoom(0, 0);
        y.undo();
        boolean isPlan = call == CHANGES[CHANGES.length - 1];
        if (isPlan) due(STATE, () -> x.applyPlan());
        if (isPlan) x.plan(3, FIRST + DAY, FIRST + 2 * DAY);
        due(picture(y), () -> picture(x));
      }
      // Ten exceptions, and thirty rings, of which the eldest fell out.
      Calendarhall x = daily();
      for (int k = 0; k < 9; k++) x.leaveOut(0, 30 + k);
      x.move(0, 39, 39, 0);
      x.setRule(0, 1, 1, 0, 0);
      x.undo();
      due(10, () -> x.seriesAt(0, 12));
      due(39 * DAY, () -> x.begin(0, 39));
      due(NONE, () -> x.begin(0, 30));
      Calendarhall y = daily();
      for (int k = 0; k < 10; k++) y.remind(0, k);
      for (int k = 0; k < 4; k++) y.pass(1440);
      due(11, () -> y.ringAt(0, 1));
      y.undo();
      for (int k = 0; k < 30; k++) {
        int ring = k;
        due(10 + ring / 10, () -> y.ringAt(ring, 1));
        due(9 - ring % 10, () -> y.ringAt(ring, 0));
      }
      // Snoozed rings, also those that came meanwhile; in which order they were snoozed does not matter.
      Calendarhall z = daily();
      z.remind(0, 0);
      z.pass(600);
      for (int k = 0; k < 10; k++) z.snooze(0, 10 * (k % 2 == 0 ? 10 - k : k));
      for (int k = 1; k <= 10; k++) due(1, () -> z.pass(10));
      for (int k = 0; k < 8; k++) z.undo();
      due(15020, () -> z.now());
      due(3, () -> z.rings());
      for (int k = 3; k <= 10; k++) due(1, () -> z.pass(10));
      for (int k = 1; k <= 10; k++) {
        int ring = k;
        due(15000 + 10 * ring, () -> z.ringAt(ring, 2));
      }
    });
    of("reminders, rings and devices are then as they were ahead of the change.", () -> {
      // What a device made and shows, and its clock, in the first and the last place.
      for (int k = 0; k < 2; k++) for (int number : new int[] {0, 11}) {
        int device = k, field = number % 4;
        Calendarhall x = fresh();
        x.change(device, number, field, 10);
        x.change(1 - device, number, field, 20);
        x.change(device, number, field, 11);
        x.undo();
        due(10, () -> x.shown(device, number, field));
        due(OUT, () -> x.deliver(device, 1));
        x.deliver(device, 0);
        x.undo();
        due(20, () -> x.shown(1 - device, number, field));
        // By their clocks, which are 1 for both again.
        due(1, () -> x.deliver(1 - device, 0));
        due(device == 0 ? 20 : 10, () -> x.shown(device, number, field));
        x.undo();
        due(10, () -> x.shown(device, number, field));
        due(2, () -> x.change(device, number, field, 12));
        due(2, () -> x.deliver(device, 1));
        due(12, () -> x.shown(1 - device, number, field));
        // What an undone change had said is said anew by the next one.
        x.undo();
        x.undo();
        due(2, () -> x.change(device, number, field, 13));
        due(1, () -> x.deliver(device, 0));
        due(device == 1 ? 10 : 20, () -> x.shown(1 - device, number, field));
        due(2, () -> x.deliver(device, 1));
        due(13, () -> x.shown(1 - device, number, field));
      }
      // How far ahead a reminder was that is dropped.
      Calendarhall x = daily();
      x.remind(0, 77);
      x.forget(0);
      x.undo();
      due(14923, () -> x.nextRing(0));
    });
    of("The text, what was written, the rooms that were laid, the plan and the clashes that are kept are not brought back.", () -> {
      Calendarhall x = daily();
      x.edit(0, 3, 1);
      x.addSeries(0, 10, 610, 60, 1, true);
      x.layRooms(FIRST, FIRST + DAY);
      x.clashes(0, FIRST, FIRST + DAY);
      x.plan(3, FIRST, FIRST + DAY);
      type(x, "once");
      x.write(0);
      x.undo();
      due(1, () -> x.roomOf(1, 10));
      due(1, () -> x.clashAt(0, 2));
      due(15000 - 30, () -> x.planAt(0, 2));
      due(4, () -> x.clearText());
      due((int) 'e', () -> x.writtenAt(0));
      // Nor what they were before: an undone change does not bring them back either.
      x.pass(1);
      x.layRooms(FIRST, FIRST + 1);
      x.clashes(0, FIRST, FIRST + 1);
      x.plan(3, FIRST, FIRST + 1);
      x.undo();
      due(MISSING, () -> x.roomOf(1, 10));
      due(MISSING, () -> x.clashAt(0, 2));
      due(MISSING, () -> x.planAt(0, 2));
      due(0, () -> x.clearText());
    });
  }

  private static void exceptions() {
    section("Terms 9");
    of("A call with a piece of time from one common minute to another one (without this) throws an IllegalArgumentException if the second one is not greater, or if the piece is longer than told there.", () -> {
      Piece[] calls = {
        (x, a, b) -> x.countDates(0, a, b), (x, a, b) -> x.minutesOf(0, a, b, 0), (x, a, b) -> x.freeNext(1, a, b, 1, false), (x, a, b) -> x.best(1, a, b, 1, false),
        (x, a, b) -> x.clashes(0, a, b), (x, a, b) -> x.roomsNeeded(a, b), (x, a, b) -> x.layRooms(a, b), (x, a, b) -> x.plan(1024, a, b),
        (x, a, b) -> x.busyShare(0, a, b), (x, a, b) -> x.checksum(a, b)
      };
      int[] longest = {525600, 20160, 20160, 10080, 10080, 10080, 10080, 10080, 20160, 10080};
      for (int k = 0; k < calls.length; k++) {
        Piece call = calls[k];
        taken(() -> call.on(full(), FIRST + 9, FIRST + 10));
        refused(BAD, () -> full(), x -> call.on(x, FIRST + 9, FIRST + 9));
        refused(BAD, () -> full(), x -> call.on(x, FIRST + 9, FIRST + 8));
        longest(longest[k], () -> full(), call);
      }
      // Without the second minute itself: what begins at it is not in the piece.
      Calendarhall x = daily();
      due(0, () -> x.countDates(0, 14999, 15000));
      due(1, () -> x.countDates(0, 14999, 15001));
    });
    of("If several exceptions apply to a call, the one that is listed first is thrown", () -> {
      Calendarhall x = twelve();
      due(OUT, () -> x.setZone(3, 1, 1));
      due(OUT, () -> x.addSeries(3, 9, 0, 1, 0, false));
      due(BAD, () -> x.addSeries(0, 9, 0, 1, 0, false));
      due(OUT, () -> x.leaveOut(12, 9));
      due(MISSING, () -> x.leaveOut(0, 9));
      due(OUT, () -> x.move(12, 9, 9, 0));
      due(BAD, () -> x.move(0, 9, 9, 0));
      due(MISSING, () -> x.move(0, 9, 10, 0));
      due(OUT, () -> x.fromHere(12, 9, 1440, 1));
      due(BAD, () -> x.fromHere(0, 9, 1440, 1));
      due(MISSING, () -> x.fromHere(0, 9, 0, 1));
      due(OUT, () -> x.answer(0, 8, 4));
      due(OUT, () -> x.remind(12, 1441));
      due(BAD, () -> x.remind(0, 1441));
      due(BAD, () -> x.dayOfSeries(1, 501));
      due(BAD, () -> x.clashAt(MOST, 4));
      due(BAD, () -> x.planAt(MOST, 3));
      due(BAD, () -> x.plan(0, FIRST, FIRST + 10080));
    });
    of("a call that throws an exception changes nothing.", () -> {
      Call[] bad = {
        x -> x.setZone(0, 840, 121), x -> x.setSwitch(0, true, 10, 1, 0, 0), x -> x.setPerson(0, 1, 5, 700, 700), x -> x.setRoom(3, 10), x -> x.addSeries(0, 10, 0, 1, 256, true),
        x -> x.setRule(0, 2, 1, 1, 1), x -> x.setEnd(0, 2, 9), x -> x.edit(0, 2, 256), x -> x.move(0, 12, 12, 1440), x -> x.fromHere(0, 12, 0, 601), x -> x.answer(0, 0, 4),
        x -> x.answer(2, 0, 1), x -> x.counter(0, 0, 1440), x -> x.counter(2, 0, 1), x -> x.remind(0, 1441), x -> x.pass(1441), x -> x.snooze(0, 601), x -> x.change(0, 0, 0, 1000),
        x -> x.plan(3, FIRST, FIRST), x -> x.clashes(0, FIRST, FIRST), x -> x.layRooms(FIRST, FIRST)
      };
      for (Call call : bad) refused(BAD, () -> full(), call);
      Call[] out = {
        x -> x.dropSeries(3), x -> x.readRule(3), x -> x.bringBack(3, 14), x -> x.accept(0, 8), x -> x.forget(2), x -> x.snooze(9, 5), x -> x.deliver(0, 1), x -> x.write(3)
      };
      for (Call call : out) refused(OUT, () -> full(), call);
      Call[] missing = {x -> x.leaveOut(1, 14), x -> x.move(1, 14, 20, 0), x -> x.bringBack(0, 12), x -> x.fromHere(0, 10, 0, 1), x -> x.accept(0, 0)};
      for (Call call : missing) refused(MISSING, () -> full(), call);
      refused(STATE, () -> full(), x -> x.plan(3, FIRST, FIRST + 5 * DAY));
      refused(STATE, () -> twelve(), x -> x.fromHere(0, 22, 0, 1));
      refused(STATE, () -> twelve(), x -> x.addSeries(0, 10, 0, 1, 0, false));
      refused(STATE, () -> twelve(), x -> x.leaveOut(0, 22));
      refused(STATE, () -> twelve(), x -> x.move(0, 22, 23, 0));
      refused(STATE, () -> fresh(), x -> x.undo());
      refused(STATE, () -> fresh(), x -> x.applyPlan());
    });
    of("An IndexOutOfBoundsException is thrown for a zone, series, person, room, reminder, ring or device that is not there", () -> {
      With[] calls = {
        (x, n) -> x.setZone(n, 0, 0), (x, n) -> x.setPerson(n, 0, 0, 0, 1), (x, n) -> x.setRoom(n, 0), (x, n) -> x.dropSeries(n), (x, n) -> x.setRule(n, 0, 0, 0, 0), (x, n) -> x.setEnd(n, 0, 0),
        (x, n) -> x.readRule(n), (x, n) -> x.edit(n, 0, 0), (x, n) -> x.leaveOut(n, 12), (x, n) -> x.move(n, 12, 12, 0), (x, n) -> x.bringBack(n, 12), (x, n) -> x.fromHere(n, 12, 0, 1),
        (x, n) -> x.answer(n, 0, 0), (x, n) -> x.answer(0, n, 0), (x, n) -> x.counter(n, 0, 0), (x, n) -> x.counter(0, n, 0), (x, n) -> x.accept(n, 0), (x, n) -> x.accept(0, n),
        (x, n) -> x.remind(n, 0), (x, n) -> x.forget(n), (x, n) -> x.snooze(n, 1), (x, n) -> x.change(n, 0, 0, 0), (x, n) -> x.deliver(n, 0), (x, n) -> x.toLocal(n, FIRST),
        (x, n) -> x.toCommon(n, FIRST, false), (x, n) -> x.seriesAt(n, 0), (x, n) -> x.nextDay(n, 10), (x, n) -> x.countDays(n, 10, 10), (x, n) -> x.dayOfSeries(n, 0), (x, n) -> x.begin(n, 12),
        (x, n) -> x.nextDate(n, FIRST), (x, n) -> x.countDates(n, FIRST, FIRST + 1), (x, n) -> x.answerOf(n, 0), (x, n) -> x.answerOf(0, n), (x, n) -> x.counterOf(n, 0), (x, n) -> x.counterOf(0, n),
        (x, n) -> x.datesAt(n, FIRST), (x, n) -> x.minutesOf(n, FIRST, FIRST + 1, 0), (x, n) -> x.clashes(n, FIRST, FIRST + 1), (x, n) -> x.nextRing(n), (x, n) -> x.ringAt(n, 0),
        (x, n) -> x.shown(n, 0, 0), (x, n) -> x.write(n), (x, n) -> x.busyShare(n, FIRST, FIRST + 1)
      };
      for (With call : calls) for (int number : new int[] {-1, 12, LEAST, MOST}) refused(OUT, () -> full(), x -> call.on(x, number));
    });
    of("an IllegalArgumentException for other numbers out of range.", () -> {
      With[] calls = {
        (x, n) -> x.setSwitch(0, true, n, 1, 0, 0), (x, n) -> x.setSwitch(0, true, 4, n, 0, 0), (x, n) -> x.setSwitch(0, true, 4, 1, n, 0), (x, n) -> x.setSwitch(0, true, 4, 1, 0, n),
        (x, n) -> x.setPerson(0, 0, n, 0, 1), (x, n) -> x.setPerson(0, 0, 0, n, 1440), (x, n) -> x.setPerson(0, 0, 0, 0, n), (x, n) -> x.setRoom(0, n), (x, n) -> x.edit(0, n, 0),
        (x, n) -> x.dayAt(n, 0), (x, n) -> x.dayAt(0, n), (x, n) -> x.seriesAt(0, n), (x, n) -> x.minutesOf(0, FIRST, FIRST + 1, n), (x, n) -> x.clashAt(0, n), (x, n) -> x.planAt(0, n),
        (x, n) -> x.ringAt(0, n), (x, n) -> x.shown(0, n, 0), (x, n) -> x.shown(0, 0, n), (x, n) -> x.dayOfSeries(0, n), (x, n) -> x.pass(n), (x, n) -> x.snooze(0, n), (x, n) -> x.remind(0, n),
        (x, n) -> x.freeNext(n, FIRST, FIRST + 1, 1, false), (x, n) -> x.freeNext(1, FIRST, FIRST + 1, n, false), (x, n) -> x.best(n, FIRST, FIRST + 1, 1, false),
        (x, n) -> x.best(1, FIRST, FIRST + 1, n, false), (x, n) -> x.plan(n, FIRST, FIRST + 1), (x, n) -> x.clashAt(n, 0), (x, n) -> x.planAt(n, 0)
      };
      for (int k = 0; k < calls.length; k++) {
        With call = calls[k];
        for (int number : new int[] {-1, LEAST}) refused(BAD, () -> full(), x -> call.on(x, number));
        // The places of clashes and of dates of a plan have no greatest number.
        if (k < calls.length - 2) refused(BAD, () -> full(), x -> call.on(x, MOST));
      }
    });
  }

  /** Twelve series, the first one daily, with ten exceptions. */
  private static Calendarhall twelve() {
    Calendarhall x = daily();
    for (int k = 1; k < 12; k++) x.addSeries(0, 10, 0, 1, 0, false);
    for (int k = 0; k < 10; k++) x.leaveOut(0, 12 + k);
    return x;
  }

  private static void constants() {
    section("Terms 9");
    of("The constants: `NONE = -1`: There is none.", () -> {
      due(-1, () -> Calendarhall.NONE);
      due(Calendarhall.NONE, () -> fresh().dayOf(2001, 2, 29));
    });
    of("`ONCE = 0, DAYS = 1, WEEKS = 2, MONTHS = 3, SETS = 4, YEARS = 5`: Kinds of rules.", () -> {
      int[] kinds = {Calendarhall.ONCE, Calendarhall.DAYS, Calendarhall.WEEKS, Calendarhall.MONTHS, Calendarhall.SETS, Calendarhall.YEARS};
      for (int k = 0; k < 6; k++) {
        int number = k;
        due(number, () -> kinds[number]);
      }
      due(Calendarhall.ONCE, () -> full().setRule(2, Calendarhall.YEARS, 1, 0, 0));
    });
    of("`NOT_YET = 0, YES = 1, NO = 2, MAYBE = 3`: Answers.", () -> {
      int[] answers = {Calendarhall.NOT_YET, Calendarhall.YES, Calendarhall.NO, Calendarhall.MAYBE};
      for (int k = 0; k < 4; k++) {
        int number = k;
        due(number, () -> answers[number]);
      }
    });
    for (String call : new String[] {"`setZone`", "`addSeries`", "`answer`", "`dayOf`", "`seriesAt`", "`datesAt`", "`roomsNeeded`", "`now`", "`type`", "`busyShare`"}) namesNoEdge("Ahead of the calls " + call);
  }
}
