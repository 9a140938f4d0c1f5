import java.util.function.Supplier;

/**
 * For each promise of the document its ordinary inputs, its edges and wrong inputs; what is due was
 * reckoned by hand. The day 10 is a Tuesday, the 11th of January 2000; its first minute is 14400.
 */
public final class PromiseTests {
  private static final int NONE = -1, FIRST = 14400, LAST = 210240000, DAY = 1440;
  private static final int LEAST = Integer.MIN_VALUE, MOST = Integer.MAX_VALUE;
  private static final String OUT = "IndexOutOfBoundsException", BAD = "IllegalArgumentException";
  private static final String STATE = "IllegalStateException", MISSING = "NoSuchElementException";

  private static int promise = 0;
  private static int checks = 0;
  private static int wrong = 0;

  private static Object ask(Supplier<Object> call) {
    try {
      return call.get();
    } catch (RuntimeException e) {
      return e.getClass().getSimpleName();
    }
  }

  /** One call and what it is due to answer: a number, a boolean, or the name of an exception. */
  private static void due(Object want, Supplier<Object> call) {
    Object got = ask(call);
    checks++;
    if (got.equals(want)) return;
    wrong++;
    int line = 0;
    for (StackTraceElement e : new Throwable().getStackTrace()) if (e.getMethodName().startsWith("p") && line == 0) line = e.getLineNumber();
    System.out.println("promise " + promise + ", line " + line + ": answered " + got + ", due is " + want);
  }

  private static Calendarhall fresh(int number) {
    promise = number;
    return new Calendarhall();
  }

  private static void type(Calendarhall x, String text) {
    x.clearText();
    for (int k = 0; k < text.length(); k++) x.type(text.charAt(k));
  }

  private static String written(Calendarhall x, int series) {
    int length = x.write(series);
    StringBuilder out = new StringBuilder();
    for (int k = 0; k < length; k++) out.append((char) x.writtenAt(k));
    return out.toString();
  }

  public static void main(String[] args) {
    p1NewObject(); p2SetZone(); p3SetSwitch(); p4SetPerson(); p5SetRoom();
    p6AddSeries(); p7DropSeries(); p8SetRule(); p9SetEnd(); p10ReadRule(); p11Edit();
    p12LeaveOut(); p13Move(); p14BringBack(); p15FromHere(); p16ApplyPlan();
    p17Answer(); p18Counter(); p19Accept(); p20Remind(); p21Forget(); p22Pass(); p23Snooze();
    p24Change(); p25Deliver(); p26Undo(); p26UndoOfAll();
    p27DayOf(); p28DayAt(); p29ToLocal(); p30ToCommon();
    p31SeriesAt(); p32NextDay(); p33CountDays(); p34DayOfSeries(); p35Begin(); p36NextDate(); p36ToTheMinute(); p37CountDates();
    p38AnswerOf(); p39CounterOf(); p40DatesAt(); p41MinutesOf(); p41AboutSwitches(); p42FreeNext(); p43Best();
    p44Clashes(); p45ClashAt(); p46RoomsNeeded(); p47LayRooms(); p48RoomOf(); p49Plan(); p50PlanAt();
    p51Now(); p52NextRing(); p53Rings(); p54RingAt(); p55Shown(); p56AreAlike();
    p57Type(); p58ClearText(); p59ErrorPlace(); p60Write(); p61WrittenAt();
    p62BusyShare(); p63MeanLength(); p64Checksum(); p65Errors();
    System.out.println("PromiseTests: " + checks + " checks, " + wrong + " wrong");
    if (wrong > 0) System.exit(1);
  }

  private static void p1NewObject() {
    Calendarhall x = fresh(1);
    due(14400, () -> x.now());
    due(0, () -> x.rings());
    due(0.0f, () -> x.meanLength());
    due(true, () -> x.areAlike());
    due(NONE, () -> x.shown(0, 0, 0));
    due(OUT, () -> x.seriesAt(0, 0));
    due(OUT, () -> x.nextRing(0));
    due(OUT, () -> x.ringAt(0, 0));
    due(OUT, () -> x.deliver(0, 0));
    due(STATE, () -> x.undo());
    due(STATE, () -> x.applyPlan());
    due(MISSING, () -> x.planAt(0, 0));
    due(MISSING, () -> x.clashAt(0, 0));
    due(MISSING, () -> x.roomOf(0, 10));
    due(MISSING, () -> x.writtenAt(0));
    due(0, () -> x.clearText());
    for (int k = 0; k < 8; k++) {
      int p = k;
      due(480, () -> x.minutesOf(p, FIRST, FIRST + DAY, 1));
      due(540 + FIRST, () -> x.freeNext(1 << p, FIRST, FIRST + DAY, 1, true));
    }
    for (int k = 0; k < 4; k++) {
      int r = k;
      due(r, () -> x.setRoom(r, 9));
    }
    for (int k = 0; k < 3; k++) {
      int z = k;
      due(FIRST, () -> x.toLocal(z, FIRST));
      due(3, () -> x.setSwitch(z, true, 4, 1, 0, 0));
      due(10, () -> x.setSwitch(z, false, 9, 1, 0, 0));
      due(0, () -> x.setZone(z, 15, 0));
    }
    due(0, () -> x.addSeries(0, 10, 0, 1, 0, false));
  }

  private static void p2SetZone() {
    Calendarhall x = fresh(2);
    due(0, () -> x.setZone(2, -720, 0));
    due(-720, () -> x.setZone(2, 840, 120));
    due(840, () -> x.setZone(2, 15, 15));
    due(14415, () -> x.toLocal(2, FIRST));
    due(FIRST, () -> x.toLocal(1, FIRST));
    due(OUT, () -> x.setZone(-1, 0, 0));
    due(OUT, () -> x.setZone(3, 7, 7));
    due(OUT, () -> x.setZone(MOST, 0, 0));
    due(BAD, () -> x.setZone(0, -735, 0));
    due(BAD, () -> x.setZone(0, 855, 0));
    due(BAD, () -> x.setZone(0, 7, 0));
    due(BAD, () -> x.setZone(0, -20, 0));
    due(BAD, () -> x.setZone(0, 0, -15));
    due(BAD, () -> x.setZone(0, 0, 135));
    due(BAD, () -> x.setZone(0, 0, 50));
    due(BAD, () -> x.setZone(0, LEAST, MOST));
    due(15, () -> x.setZone(2, 0, 0));
    // What stands is told by the zone as it is now, also for what was there before.
    x.addSeries(2, 10, 600, 30, 1, false);
    x.setZone(2, -60, 0);
    due(15060, () -> x.begin(0, 10));
  }

  private static void p3SetSwitch() {
    Calendarhall x = fresh(3);
    x.setZone(0, 0, 60);
    due(3, () -> x.setSwitch(0, true, 2, 1, 0, 0));
    // The second Tuesday of February 2000 is the day 38.
    due(2, () -> x.setSwitch(0, true, 2, 2, 1, 1439));
    due(56158, () -> x.toLocal(0, 56158));
    due(56219, () -> x.toLocal(0, 56159));
    // The 31st of December 2000, day 365, is a Sunday.
    due(10, () -> x.setSwitch(0, false, 12, 5, 6, 0));
    due(525659, () -> x.toLocal(0, 525599));
    due(525600, () -> x.toLocal(0, 525600));
    // The Wednesdays of March 2000 are the days 60, 67, 74, 81 and 88; the Sundays of February 36, 43, 50 and 57.
    due(2, () -> x.setSwitch(0, true, 3, 4, 2, 0));
    due(81 * DAY + 60, () -> x.toLocal(0, 81 * DAY));
    due(81 * DAY - 1, () -> x.toLocal(0, 81 * DAY - 1));
    due(3, () -> x.setSwitch(0, true, 3, 5, 2, 0));
    due(88 * DAY + 60, () -> x.toLocal(0, 88 * DAY));
    due(88 * DAY - 1, () -> x.toLocal(0, 88 * DAY - 1));
    due(3, () -> x.setSwitch(0, true, 2, 5, 6, 0));
    due(57 * DAY + 60, () -> x.toLocal(0, 57 * DAY));
    due(57 * DAY - 1, () -> x.toLocal(0, 57 * DAY - 1));
    // Behind that of the switch back: summer is at the turn of the year.
    due(12, () -> x.setSwitch(0, false, 1, 3, 0, 60));
    due(FIRST + 60, () -> x.toLocal(0, FIRST));
    due(16 * DAY + 60, () -> x.toLocal(0, 16 * DAY + 60));
    due(2, () -> x.setSwitch(0, true, 2, 1, 1, 60));
    due(1, () -> x.setSwitch(0, false, 1, 3, 0, 120));
    due(2, () -> x.setSwitch(0, true, 12, 1, 0, 0));
    due(FIRST + 60, () -> x.toLocal(0, FIRST));
    due(16 * DAY + 119 + 60, () -> x.toLocal(0, 16 * DAY + 119));
    due(16 * DAY + 120, () -> x.toLocal(0, 16 * DAY + 120));
    due(OUT, () -> x.setSwitch(-1, true, 1, 1, 0, 0));
    due(OUT, () -> x.setSwitch(3, true, 13, 1, 0, 0));
    due(BAD, () -> x.setSwitch(0, true, 1, 1, 0, 0));
    due(BAD, () -> x.setSwitch(0, false, 12, 1, 0, 0));
    due(BAD, () -> x.setSwitch(0, true, 0, 1, 0, 0));
    due(BAD, () -> x.setSwitch(0, true, 13, 1, 0, 0));
    due(BAD, () -> x.setSwitch(0, true, 5, 0, 0, 0));
    due(BAD, () -> x.setSwitch(0, true, 5, 6, 0, 0));
    due(BAD, () -> x.setSwitch(0, true, 5, 1, -1, 0));
    due(BAD, () -> x.setSwitch(0, true, 5, 1, 7, 0));
    due(BAD, () -> x.setSwitch(0, true, 5, 1, 0, -1));
    due(BAD, () -> x.setSwitch(0, true, 5, 1, 0, 1440));
  }

  private static void p4SetPerson() {
    Calendarhall x = fresh(4);
    int week = FIRST + 7 * DAY;
    due(5 * 480, () -> x.minutesOf(0, FIRST, week, 1));
    due(0, () -> x.setPerson(0, 2, 96, 0, 1440));
    due(2 * 1440, () -> x.minutesOf(0, FIRST, week, 1));
    due(2, () -> x.setPerson(0, 1, 127, 1439, 1440));
    due(7, () -> x.minutesOf(0, FIRST, week, 1));
    due(1, () -> x.setPerson(0, 0, 0, 0, 1));
    due(0, () -> x.minutesOf(0, FIRST, week, 1));
    due(5 * 480, () -> x.minutesOf(1, FIRST, week, 1));
    x.setZone(1, 60, 0);
    due(0, () -> x.setPerson(7, 1, 31, 540, 1020));
    due(FIRST + 480, () -> x.freeNext(128, FIRST, week, 1, true));
    due(OUT, () -> x.setPerson(8, 0, 0, 0, 1));
    due(OUT, () -> x.setPerson(-1, 0, 0, 0, 1));
    due(OUT, () -> x.setPerson(0, 3, 128, 0, 1));
    due(OUT, () -> x.setPerson(0, -1, 0, 0, 1));
    due(BAD, () -> x.setPerson(0, 0, 128, 0, 1));
    due(BAD, () -> x.setPerson(0, 0, -1, 0, 1));
    due(BAD, () -> x.setPerson(0, 0, 1, -1, 1));
    due(BAD, () -> x.setPerson(0, 0, 1, 1440, 1441));
    due(BAD, () -> x.setPerson(0, 0, 1, 5, 5));
    due(BAD, () -> x.setPerson(0, 0, 1, 5, 1441));
    due(BAD, () -> x.setPerson(0, 0, 1, MOST, LEAST));
  }

  private static void p5SetRoom() {
    Calendarhall x = fresh(5);
    due(3, () -> x.setRoom(3, 9));
    due(9, () -> x.setRoom(3, 0));
    due(0, () -> x.setRoom(0, 0));
    due(OUT, () -> x.setRoom(4, 10));
    due(OUT, () -> x.setRoom(-1, 0));
    due(BAD, () -> x.setRoom(0, 10));
    due(BAD, () -> x.setRoom(0, -1));
  }

  private static void p6AddSeries() {
    Calendarhall x = fresh(6);
    due(OUT, () -> x.addSeries(3, 9, 0, 1, 0, false));
    due(OUT, () -> x.addSeries(-1, 10, 0, 1, 0, false));
    due(BAD, () -> x.addSeries(0, 9, 0, 1, 0, false));
    due(BAD, () -> x.addSeries(0, 146001, 0, 1, 0, false));
    due(BAD, () -> x.addSeries(0, 10, -1, 1, 0, false));
    due(BAD, () -> x.addSeries(0, 10, 1440, 1, 0, false));
    due(BAD, () -> x.addSeries(0, 10, 0, 0, 0, false));
    due(BAD, () -> x.addSeries(0, 10, 0, 601, 0, false));
    due(BAD, () -> x.addSeries(0, 10, 0, 1, -1, false));
    due(BAD, () -> x.addSeries(0, 10, 0, 1, 256, false));
    due(STATE, () -> x.undo());
    due(0, () -> x.addSeries(2, 146000, 1439, 600, 255, true));
    int[] told = {2, 146000, 1439, 600, 255, 1, 0, 0, 0, 0, 0, 0, 0};
    for (int k = 0; k < told.length; k++) {
      int what = k;
      due(told[k], () -> x.seriesAt(0, what));
    }
    for (int k = 1; k < 12; k++) {
      int number = k;
      due(number, () -> x.addSeries(0, 10, 0, 1, 0, false));
    }
    due(STATE, () -> x.addSeries(0, 10, 0, 1, 0, false));
    due(BAD, () -> x.addSeries(0, 9, 0, 1, 0, false));
    due(OUT, () -> x.addSeries(3, 10, 0, 1, 0, false));
    x.dropSeries(7);
    x.dropSeries(3);
    due(3, () -> x.addSeries(0, 10, 0, 1, 0, false));
    due(7, () -> x.addSeries(0, 10, 0, 1, 0, false));
  }

  private static void p7DropSeries() {
    Calendarhall x = fresh(7);
    x.addSeries(0, 10, 600, 30, 3, true);
    x.addSeries(0, 10, 600, 30, 3, true);
    x.setRule(0, 1, 1, 0, 0);
    x.setEnd(0, 1, 5);
    x.leaveOut(0, 11);
    x.answer(0, 0, 2);
    x.counter(0, 1, 100);
    x.remind(0, 0);
    due(1, () -> x.dropSeries(0));
    due(OUT, () -> x.dropSeries(0));
    due(OUT, () -> x.seriesAt(0, 0));
    due(NONE, () -> x.nextRing(0));
    due(0, () -> x.pass(1000));
    due(1, () -> x.datesAt(0, 15000));
    due(0, () -> x.addSeries(1, 12, 600, 30, 3, false));
    due(0, () -> x.answerOf(0, 0));
    due(NONE, () -> x.counterOf(0, 1));
    due(0, () -> x.seriesAt(0, 6));
    due(0, () -> x.seriesAt(0, 10));
    due(0, () -> x.seriesAt(0, 12));
    due(12 * DAY + 600, () -> x.nextRing(0));
    due(1, () -> x.dropSeries(1));
    due(0, () -> x.dropSeries(0));
    due(OUT, () -> x.dropSeries(-1));
    due(OUT, () -> x.dropSeries(12));
  }

  /** The days of a rule of the series 0, by nextDay(), dayOfSeries() and countDays(). */
  private static void dueDays(Calendarhall x, int... days) {
    int at = 10;
    for (int k = 0; k < days.length; k++) {
      int from = at, want = days[k], place = k, count = k + 1;
      due(want, () -> x.nextDay(0, from));
      due(want, () -> x.dayOfSeries(0, place));
      due(count, () -> x.countDays(0, 10, want));
      due(place, () -> x.countDays(0, 10, want - 1));
      at = want + 1;
    }
  }

  private static void p8SetRule() {
    Calendarhall x = fresh(8);
    x.addSeries(0, 11, 600, 30, 0, false);
    due(0, () -> x.setRule(0, 1, 99, 0, 0));
    dueDays(x, 11, 110, 209);
    due(1, () -> x.setRule(0, 2, 1, 64, 0));
    dueDays(x, 15, 22, 29);
    due(2, () -> x.setRule(0, 2, 3, 3, 0));
    // Monday and Tuesday of the week of the day 11 are before it.
    dueDays(x, 30, 31, 51, 52);
    due(2, () -> x.setRule(0, 3, 1, 0, 31));
    dueDays(x, 30, 90, 151);
    due(3, () -> x.setRule(0, 3, 1, 0, 30));
    dueDays(x, 29, 89, 120, 150);
    due(3, () -> x.setRule(0, 3, 1, 0, -1));
    dueDays(x, 30, 59, 90);
    due(3, () -> x.setRule(0, 3, 1, 0, -31));
    dueDays(x, 60, 121);
    due(3, () -> x.setRule(0, 3, 2, 0, -2));
    dueDays(x, 29, 89);
    due(3, () -> x.setRule(0, 4, 1, 1, 1));
    dueDays(x, 37, 65);
    due(4, () -> x.setRule(0, 4, 1, 1, 5));
    dueDays(x, 30, 149);
    due(4, () -> x.setRule(0, 4, 1, 31, -1));
    dueDays(x, 30, 59, 90, 118);
    due(4, () -> x.setRule(0, 4, 1, 4, -5));
    dueDays(x, 60);
    due(4, () -> x.setRule(0, 4, 1, 96, 3));
    dueDays(x, 42);
    due(4, () -> x.setRule(0, 5, 1, 0, 0));
    dueDays(x, 11, 377, 742);
    due(5, () -> x.setRule(0, 0, 0, 0, 0));
    dueDays(x, 11);
    x.addSeries(0, 59, 600, 30, 0, false);
    x.setRule(1, 5, 1, 0, 0);
    due(1520, () -> x.nextDay(1, 60));
    x.setRule(1, 5, 3, 0, 0);
    due(4442, () -> x.nextDay(1, 60));
    // From the 29th of February 2096, the 25th one, to that of 2104: 2100 has none.
    x.setRule(1, 5, 4, 0, 0);
    due(2922 - 1, () -> x.dayOfSeries(1, 25) - x.dayOfSeries(1, 24));
    // No such day at all: February has no 30th.
    x.addSeries(0, 40, 600, 30, 0, false);
    x.setRule(2, 3, 12, 0, 30);
    due(NONE, () -> x.nextDay(2, 10));
    due(0, () -> x.countDays(2, 10, 146000));
    // The end stays, the exceptions go.
    x.setRule(0, 1, 1, 0, 0);
    x.setEnd(0, 1, 7);
    x.leaveOut(0, 12);
    due(1, () -> x.setRule(0, 1, 2, 0, 0));
    due(0, () -> x.seriesAt(0, 12));
    due(1, () -> x.seriesAt(0, 10));
    due(7, () -> x.seriesAt(0, 11));
    due(7, () -> x.countDays(0, 10, 146000));
    due(OUT, () -> x.setRule(3, 9, 0, 0, 0));
    due(OUT, () -> x.setRule(-1, 0, 0, 0, 0));
    int[][] bad = {
      {-1, 0, 0, 0}, {6, 1, 0, 0}, {0, 1, 0, 0}, {0, 0, 1, 0}, {0, 0, 0, 1}, {1, 0, 0, 0}, {1, 100, 0, 0}, {1, 1, 1, 0}, {1, 1, 0, 1},
      {2, 1, 0, 0}, {2, 1, 128, 0}, {2, 1, -1, 0}, {2, 0, 1, 0}, {2, 100, 1, 0}, {2, 1, 1, 1}, {3, 1, 0, 0}, {3, 1, 0, 32}, {3, 1, 0, -32},
      {3, 0, 0, 1}, {3, 1, 1, 1}, {4, 1, 1, 0}, {4, 1, 1, 6}, {4, 1, 1, -6}, {4, 1, 0, 1}, {4, 1, 128, 1}, {4, 100, 1, 1}, {5, 0, 0, 0},
      {5, 100, 0, 0}, {5, 1, 1, 0}, {5, 1, 0, 1}, {5, -1, 0, 0}, {3, 1, 0, LEAST}, {MOST, MOST, MOST, MOST}
    };
    for (int[] b : bad) due(BAD, () -> x.setRule(0, b[0], b[1], b[2], b[3]));
  }

  private static void p9SetEnd() {
    Calendarhall x = fresh(9);
    x.addSeries(0, 20, 600, 30, 0, false);
    x.setRule(0, 1, 2, 0, 0);
    x.leaveOut(0, 22);
    due(0, () -> x.setEnd(0, 1, 3));
    due(0, () -> x.seriesAt(0, 12));
    dueDays(x, 20, 22, 24);
    due(NONE, () -> x.nextDay(0, 25));
    due(1, () -> x.setEnd(0, 1, 500));
    due(20 + 998, () -> x.dayOfSeries(0, 499));
    due(500, () -> x.countDays(0, 10, 146000));
    due(1, () -> x.setEnd(0, 2, 20));
    dueDays(x, 20);
    due(1, () -> x.countDays(0, 10, 146000));
    due(2, () -> x.setEnd(0, 2, 146000));
    due(146000, () -> x.nextDay(0, 145999));
    due(2, () -> x.setEnd(0, 0, 0));
    due(0, () -> x.setEnd(0, 0, 0));
    due(OUT, () -> x.setEnd(1, 3, 0));
    due(BAD, () -> x.setEnd(0, 3, 0));
    due(BAD, () -> x.setEnd(0, -1, 0));
    due(BAD, () -> x.setEnd(0, 0, 1));
    due(BAD, () -> x.setEnd(0, 1, 0));
    due(BAD, () -> x.setEnd(0, 1, 501));
    due(BAD, () -> x.setEnd(0, 2, 19));
    due(BAD, () -> x.setEnd(0, 2, 146001));
    // A count that is not reached ahead of the day 146000.
    x.addSeries(0, 145998, 600, 30, 0, false);
    x.setRule(1, 1, 1, 0, 0);
    x.setEnd(1, 1, 4);
    due(3, () -> x.countDays(1, 10, 146000));
    due(MISSING, () -> x.dayOfSeries(1, 3));
  }

  private static void p10ReadRule() {
    Calendarhall x = fresh(10);
    x.addSeries(0, 20, 600, 30, 0, false);
    due(BAD, () -> x.readRule(0));
    Object[][] texts = {
      {"once", 0, 0, 0, 0, 0, 0}, {"every days", 1, 1, 0, 0, 0, 0}, {"every 99 days for 500", 1, 99, 0, 0, 1, 500},
      {"every 2 weeks on su mo su until 146000", 2, 2, 65, 0, 2, 146000}, {"every months on 31", 3, 1, 0, 31, 0, 0},
      {"every months on last", 3, 1, 0, -1, 0, 0}, {"every months on last until 20", 3, 1, 0, -1, 2, 20},
      {"every 3 months on last fr for 1", 4, 3, 16, -1, 1, 1}, {"every months on first mo", 4, 1, 1, 1, 0, 0},
      {"every months on second tu", 4, 1, 2, 2, 0, 0}, {"every months on third we", 4, 1, 4, 3, 0, 0},
      {"every months on fourth th sa", 4, 1, 40, 4, 0, 0}, {"every months on fifth su", 4, 1, 64, 5, 0, 0},
      {"  every007years  for  3 ", 5, 7, 0, 0, 1, 3}, {"once for 2", 0, 0, 0, 0, 1, 2}
    };
    for (Object[] t : texts) {
      type(x, (String) t[0]);
      due(t[1], () -> x.readRule(0));
      for (int k = 1; k < 7; k++) {
        int what = k + 5;
        due(t[k], () -> x.seriesAt(0, what));
      }
    }
    type(x, "every days");
    x.readRule(0);
    x.leaveOut(0, 21);
    due(1, () -> x.readRule(0));
    due(0, () -> x.seriesAt(0, 12));
    due(10, () -> x.clearText());
    type(x, "every days until 19");
    due(NONE, () -> x.errorPlace());
    due(BAD, () -> x.readRule(0));
    due(OUT, () -> x.readRule(1));
    due(1, () -> x.seriesAt(0, 6));
  }

  private static void p11Edit() {
    Calendarhall x = fresh(11);
    x.addSeries(0, 10, 600, 30, 7, false);
    x.setRule(0, 1, 1, 0, 0);
    x.leaveOut(0, 11);
    x.answer(0, 0, 1);
    x.answer(0, 1, 2);
    x.counter(0, 1, 5);
    x.counter(0, 2, 6);
    due(600, () -> x.edit(0, 0, 1439));
    due(1439, () -> x.edit(0, 0, 0));
    due(FIRST, () -> x.begin(0, 10));
    due(30, () -> x.edit(0, 1, 600));
    due(600, () -> x.edit(0, 1, 1));
    due(0, () -> x.edit(0, 3, 1));
    due(1, () -> x.edit(0, 3, 0));
    due(1, () -> x.seriesAt(0, 12));
    due(7, () -> x.edit(0, 2, 13));
    due(1, () -> x.answerOf(0, 0));
    due(6, () -> x.counterOf(0, 2));
    due(NONE, () -> x.answerOf(0, 1));
    due(NONE, () -> x.counterOf(0, 1));
    due(0, () -> x.answerOf(0, 3));
    due(13, () -> x.edit(0, 2, 255));
    due(0, () -> x.answerOf(0, 1));
    due(NONE, () -> x.counterOf(0, 1));
    due(OUT, () -> x.edit(1, 4, 0));
    due(BAD, () -> x.edit(0, -1, 0));
    due(BAD, () -> x.edit(0, 4, 0));
    due(BAD, () -> x.edit(0, 0, -1));
    due(BAD, () -> x.edit(0, 0, 1440));
    due(BAD, () -> x.edit(0, 1, 0));
    due(BAD, () -> x.edit(0, 1, 601));
    due(BAD, () -> x.edit(0, 2, -1));
    due(BAD, () -> x.edit(0, 2, 256));
    due(BAD, () -> x.edit(0, 3, 2));
    due(BAD, () -> x.edit(0, 3, -1));
  }

  private static void p12LeaveOut() {
    Calendarhall x = fresh(12);
    x.addSeries(0, 10, 600, 30, 1, false);
    x.setRule(0, 1, 2, 0, 0);
    due(1, () -> x.leaveOut(0, 12));
    due(1, () -> x.leaveOut(0, 12));
    due(NONE, () -> x.begin(0, 12));
    due(12, () -> x.nextDay(0, 11));
    x.move(0, 14, 20, 0);
    due(2, () -> x.leaveOut(0, 14));
    due(NONE, () -> x.begin(0, 14));
    due(0, () -> x.datesAt(0, 20 * DAY));
    for (int k = 3; k <= 10; k++) {
      int count = k;
      due(count, () -> x.leaveOut(0, 10 + 4 * count));
    }
    due(STATE, () -> x.leaveOut(0, 100));
    due(10, () -> x.leaveOut(0, 12));
    due(MISSING, () -> x.leaveOut(0, 101));
    due(MISSING, () -> x.leaveOut(0, 11));
    due(MISSING, () -> x.leaveOut(0, 8));
    due(MISSING, () -> x.leaveOut(0, LEAST));
    due(MISSING, () -> x.leaveOut(0, MOST));
    due(OUT, () -> x.leaveOut(1, 11));
  }

  private static void p13Move() {
    Calendarhall x = fresh(13);
    x.setZone(1, 60, 60);
    x.addSeries(0, 10, 600, 30, 1, false);
    x.setRule(0, 1, 1, 0, 0);
    due(12 * DAY + 5, () -> x.move(0, 11, 12, 5));
    due(12 * DAY + 5, () -> x.begin(0, 11));
    due(12 * DAY + 600, () -> x.begin(0, 12));
    due(12 * DAY + 6, () -> x.move(0, 11, 12, 6));
    due(1, () -> x.seriesAt(0, 12));
    x.leaveOut(0, 13);
    due(14400, () -> x.move(0, 13, 10, 0));
    due(2, () -> x.seriesAt(0, 12));
    due(146000 * DAY + 1439, () -> x.move(0, 14, 146000, 1439));
    for (int k = 15; k < 22; k++) x.move(0, k, 10, k);
    due(10, () -> x.seriesAt(0, 12));
    due(STATE, () -> x.move(0, 30, 30, 0));
    due(10 * DAY + 1, () -> x.move(0, 21, 10, 1));
    due(OUT, () -> x.move(1, 30, 9, 0));
    due(BAD, () -> x.move(0, 9, 9, 0));
    due(BAD, () -> x.move(0, 30, 146001, 0));
    due(BAD, () -> x.move(0, 30, 30, -1));
    due(BAD, () -> x.move(0, 30, 30, 1440));
    due(MISSING, () -> x.move(0, 9, 30, 0));
    due(MISSING, () -> x.move(0, MOST, 30, 0));
    // In a zone: to a local minute that is told by none (the 26th of March 2000, day 85), and one that is told twice.
    x.addSeries(1, 85, 0, 30, 1, false);
    due(85 * DAY + 150 - 60, () -> x.move(1, 85, 85, 150));
    due(85 * DAY + 180 - 120, () -> x.move(1, 85, 85, 180));
    due(302 * DAY + 150 - 120, () -> x.move(1, 85, 302, 150));
    // The length goes with it, and the date is found where it is.
    x.edit(1, 1, 100);
    due(1, () -> x.datesAt(0, 302 * DAY + 150 - 120 + 99));
  }

  private static void p14BringBack() {
    Calendarhall x = fresh(14);
    x.addSeries(0, 10, 600, 30, 1, false);
    x.setRule(0, 1, 1, 0, 0);
    x.leaveOut(0, 11);
    x.move(0, 12, 30, 0);
    x.leaveOut(0, 13);
    due(2, () -> x.bringBack(0, 11));
    due(11 * DAY + 600, () -> x.begin(0, 11));
    due(30 * DAY, () -> x.begin(0, 12));
    due(NONE, () -> x.begin(0, 13));
    due(1, () -> x.bringBack(0, 12));
    due(12 * DAY + 600, () -> x.begin(0, 12));
    due(MISSING, () -> x.bringBack(0, 12));
    due(MISSING, () -> x.bringBack(0, LEAST));
    due(MISSING, () -> x.bringBack(0, NONE));
    due(0, () -> x.bringBack(0, 13));
    due(OUT, () -> x.bringBack(1, 13));
  }

  private static void p15FromHere() {
    Calendarhall x = fresh(15);
    x.addSeries(1, 11, 600, 30, 7, true);
    x.setRule(0, 2, 1, 17, 0);
    // Mondays and Fridays: 13, 16, 20, 23, 27, 30.
    x.setEnd(0, 1, 6);
    x.leaveOut(0, 16);
    x.move(0, 23, 24, 100);
    x.answer(0, 1, 2);
    x.counter(0, 2, 77);
    due(OUT, () -> x.fromHere(1, 23, 0, 1));
    due(BAD, () -> x.fromHere(0, 14, -1, 1));
    due(BAD, () -> x.fromHere(0, 23, 1440, 1));
    due(BAD, () -> x.fromHere(0, 23, 0, 0));
    due(BAD, () -> x.fromHere(0, 23, 0, 601));
    due(MISSING, () -> x.fromHere(0, 14, 0, 1));
    due(MISSING, () -> x.fromHere(0, 13, 0, 1));
    due(MISSING, () -> x.fromHere(0, 11, 0, 1));
    due(MISSING, () -> x.fromHere(0, LEAST, 0, 1));
    due(MISSING, () -> x.fromHere(0, 34, 0, 1));
    due(1, () -> x.fromHere(0, 23, 500, 45));
    int[] old = {1, 11, 600, 30, 7, 1, 2, 1, 17, 0, 2, 22, 1};
    int[] made = {1, 23, 500, 45, 7, 1, 2, 1, 17, 0, 1, 3, 1};
    for (int k = 0; k < 13; k++) {
      int what = k;
      due(old[k], () -> x.seriesAt(0, what));
      due(made[k], () -> x.seriesAt(1, what));
    }
    due(3, () -> x.countDays(0, 10, 146000));
    due(3, () -> x.countDays(1, 10, 146000));
    due(NONE, () -> x.begin(0, 16));
    due(24 * DAY + 100, () -> x.begin(1, 23));
    due(27 * DAY + 500, () -> x.begin(1, 27));
    due(2, () -> x.answerOf(0, 1));
    due(2, () -> x.answerOf(1, 1));
    due(77, () -> x.counterOf(0, 2));
    due(77, () -> x.counterOf(1, 2));
    // The same last day, and the same steps.
    x.addSeries(0, 10, 0, 1, 0, false);
    x.setRule(2, 2, 2, 2, 0);
    x.setEnd(2, 2, 60);
    due(3, () -> x.fromHere(2, 38, 0, 1));
    due(2, () -> x.seriesAt(3, 10));
    due(60, () -> x.seriesAt(3, 11));
    due(52, () -> x.nextDay(3, 39));
    due(37, () -> x.seriesAt(2, 11));
    // Each day, by a count.
    Calendarhall y = fresh(15);
    y.addSeries(0, 10, 0, 1, 0, false);
    y.setRule(0, 1, 1, 0, 0);
    y.setEnd(0, 1, 5);
    due(1, () -> y.fromHere(0, 12, 0, 1));
    due(3, () -> y.seriesAt(1, 11));
    due(3, () -> y.countDays(1, 10, 146000));
    due(NONE, () -> y.nextDay(1, 15));
    due(2, () -> y.countDays(0, 10, 146000));
    due(1, () -> y.seriesAt(1, 7));
    y.undo();
    due(5, () -> y.countDays(0, 10, 146000));
    due(OUT, () -> y.seriesAt(1, 0));
    // Without an end.
    x.addSeries(0, 10, 0, 1, 0, false);
    x.setRule(4, 1, 3, 0, 0);
    due(5, () -> x.fromHere(4, 13, 0, 1));
    due(0, () -> x.seriesAt(5, 10));
    due(12, () -> x.seriesAt(4, 11));
    for (int k = 6; k < 12; k++) x.addSeries(0, 10, 0, 1, 0, false);
    due(STATE, () -> x.fromHere(5, 16, 0, 1));
    due(MISSING, () -> x.fromHere(5, 17, 0, 1));
  }

  /** Three series of one hour at the minute 600 of the day 10, with a person in all of them. */
  private static Calendarhall threeAtOnce(int number) {
    Calendarhall x = fresh(number);
    for (int k = 0; k < 3; k++) x.addSeries(0, 10, 600, 60, 1, false);
    return x;
  }

  private static void p16ApplyPlan() {
    Calendarhall x = threeAtOnce(16);
    due(STATE, () -> x.applyPlan());
    due(60, () -> x.plan(3, FIRST, FIRST + DAY));
    due(1, () -> x.applyPlan());
    due(14940, () -> x.begin(0, 10));
    due(15000, () -> x.begin(1, 10));
    due(1, () -> x.seriesAt(0, 12));
    due(0, () -> x.seriesAt(1, 12));
    due(STATE, () -> x.applyPlan());
    due(MISSING, () -> x.planAt(0, 0));
    // A date that begins there already is not moved; undo brings the date back, but not the plan.
    due(60, () -> x.plan(6, FIRST, FIRST + DAY));
    x.move(1, 10, 10, 540);
    due(0, () -> x.applyPlan());
    due(5, () -> { x.undo(); x.undo(); x.undo(); return 5; });
    due(15000, () -> x.begin(0, 10));
    due(STATE, () -> x.applyPlan());
    // No date any more: left out, dropped, or none of the days.
    x.plan(3, FIRST, FIRST + DAY);
    x.leaveOut(0, 10);
    due(STATE, () -> x.applyPlan());
    x.bringBack(0, 10);
    x.dropSeries(1);
    due(STATE, () -> x.applyPlan());
    x.addSeries(0, 11, 600, 60, 1, false);
    due(STATE, () -> x.applyPlan());
    due(14940, () -> x.planAt(0, 2));
    x.undo();
    x.undo();
    due(1, () -> x.applyPlan());

    // More than 10 exceptions: nothing is changed, and the plan stays.
    Calendarhall y = threeAtOnce(16);
    y.setRule(0, 1, 1, 0, 0);
    for (int k = 0; k < 10; k++) y.leaveOut(0, 20 + k);
    y.plan(3, FIRST, FIRST + DAY);
    due(STATE, () -> y.applyPlan());
    y.bringBack(0, 20);
    due(1, () -> y.applyPlan());
    due(10, () -> y.seriesAt(0, 12));
    // A date that is an exception already takes no new place.
    y.plan(1, FIRST, FIRST + DAY);
    y.move(0, 10, 10, 0);
    due(1, () -> y.applyPlan());
    due(14940, () -> y.begin(0, 10));

    // To a local minute that is told twice: the 29th of October 2000, day 302.
    Calendarhall z = fresh(16);
    z.setZone(0, 0, 60);
    for (int k = 0; k < 3; k++) z.addSeries(0, 302, 60, 60, 1, false);
    due(434880, () -> z.begin(2, 302));
    due(180, () -> z.plan(7, 434880, 440000));
    due(435000, () -> z.planAt(2, 2));
    due(2, () -> z.applyPlan());
    due(434940, () -> z.begin(1, 302));
    due(434940, () -> z.begin(2, 302));
  }

  private static void p17Answer() {
    Calendarhall x = fresh(17);
    x.addSeries(0, 10, 600, 30, 6, false);
    due(0, () -> x.answer(0, 1, 3));
    due(3, () -> x.answer(0, 1, 2));
    due(2, () -> x.answer(0, 1, 2));
    due(0, () -> x.answerOf(0, 2));
    due(0, () -> x.datesAt(1, 15000));
    due(1, () -> x.datesAt(2, 15000));
    due(2, () -> x.answer(0, 1, 3));
    due(1, () -> x.datesAt(1, 15000));
    due(OUT, () -> x.answer(1, 1, 0));
    due(OUT, () -> x.answer(0, 8, 9));
    due(OUT, () -> x.answer(0, -1, 0));
    due(BAD, () -> x.answer(0, 0, 0));
    due(BAD, () -> x.answer(0, 1, 4));
    due(BAD, () -> x.answer(0, 1, -1));
  }

  private static void p18Counter() {
    Calendarhall x = fresh(18);
    x.addSeries(0, 10, 600, 30, 6, false);
    due(1, () -> x.counter(0, 1, 0));
    due(2, () -> x.counter(0, 2, 1439));
    due(2, () -> x.counter(0, 1, 5));
    due(5, () -> x.counterOf(0, 1));
    due(600, () -> x.seriesAt(0, 2));
    due(0, () -> x.answerOf(0, 1));
    due(OUT, () -> x.counter(1, 1, 0));
    due(OUT, () -> x.counter(0, 8, 1440));
    due(BAD, () -> x.counter(0, 0, 0));
    due(BAD, () -> x.counter(0, 1, -1));
    due(BAD, () -> x.counter(0, 1, 1440));
  }

  private static void p19Accept() {
    Calendarhall x = fresh(19);
    x.addSeries(0, 10, 600, 30, 7, false);
    x.answer(0, 0, 2);
    x.answer(0, 1, 3);
    x.counter(0, 1, 700);
    x.counter(0, 2, 800);
    due(MISSING, () -> x.accept(0, 0));
    due(MISSING, () -> x.accept(0, 3));
    due(OUT, () -> x.accept(0, 8));
    due(OUT, () -> x.accept(0, -1));
    due(OUT, () -> x.accept(1, 1));
    due(700, () -> x.accept(0, 1));
    due(700, () -> x.seriesAt(0, 2));
    due(0, () -> x.answerOf(0, 0));
    due(1, () -> x.answerOf(0, 1));
    due(NONE, () -> x.counterOf(0, 1));
    due(NONE, () -> x.counterOf(0, 2));
    due(MISSING, () -> x.accept(0, 1));
  }

  private static void p20Remind() {
    Calendarhall x = fresh(20);
    x.addSeries(0, 20, 600, 30, 7, false);
    due(OUT, () -> x.remind(1, 1441));
    due(BAD, () -> x.remind(0, -1));
    due(BAD, () -> x.remind(0, 1441));
    for (int k = 0; k < 10; k++) {
      int r = k;
      due(r, () -> x.remind(0, r == 9 ? 1440 : r));
    }
    due(STATE, () -> x.remind(0, 0));
    due(BAD, () -> x.remind(0, 1441));
    due(20 * DAY + 600, () -> x.nextRing(0));
    due(19 * DAY + 600, () -> x.nextRing(9));
    x.forget(6);
    x.forget(4);
    due(4, () -> x.remind(0, 0));
    due(6, () -> x.remind(0, 0));
  }

  private static void p21Forget() {
    Calendarhall x = fresh(21);
    x.addSeries(0, 10, 600, 30, 7, false);
    x.remind(0, 0);
    x.remind(0, 1);
    due(2, () -> x.pass(600));
    x.snooze(0, 5);
    due(1, () -> x.forget(0));
    due(OUT, () -> x.forget(0));
    due(OUT, () -> x.forget(-1));
    due(OUT, () -> x.forget(10));
    due(2, () -> x.rings());
    due(0, () -> x.forget(1));
    due(1, () -> x.pass(5));
    due(1, () -> x.ringAt(2, 0));
  }

  private static void p22Pass() {
    Calendarhall x = fresh(22);
    x.addSeries(0, 10, 600, 30, 7, false);
    x.setRule(0, 1, 1, 0, 0);
    x.remind(0, 30);
    x.remind(0, 600);
    // The ring of the second one at the minute 14400 is not behind the clock.
    due(0, () -> x.pass(569));
    due(1, () -> x.pass(1));
    due(14970, () -> x.now());
    due(0, () -> x.pass(1));
    due(2, () -> x.pass(1440));
    due(1, () -> x.ringAt(1, 0));
    due(0, () -> x.ringAt(2, 0));
    due(BAD, () -> x.pass(0));
    due(BAD, () -> x.pass(-5));
    due(BAD, () -> x.pass(1441));
    due(BAD, () -> x.pass(MOST));

    // Of like minutes: the reminder, the day, snoozed ones behind.
    Calendarhall y = fresh(22);
    y.addSeries(0, 10, 10, 30, 7, false);
    y.setRule(0, 1, 1, 0, 0);
    y.addSeries(0, 10, 10, 30, 7, false);
    y.setRule(1, 1, 1, 0, 0);
    y.remind(1, 0);
    y.remind(0, 0);
    due(2, () -> y.pass(10));
    y.snooze(1, 90);
    y.snooze(0, 90);
    y.move(0, 12, 10, 100);
    y.move(0, 11, 10, 100);
    y.move(1, 10, 10, 100);
    due(5, () -> y.pass(90));
    int[][] want = {{0, 10, 0}, {0, 10, 1}, {1, 10, 1}, {1, 11, 0}, {1, 12, 0}};
    for (int k = 0; k < 5; k++) {
      int ring = k + 2;
      due(want[k][0], () -> y.ringAt(ring, 0));
      due(want[k][1], () -> y.ringAt(ring, 1));
      due(14500, () -> y.ringAt(ring, 2));
      due(want[k][2], () -> y.ringAt(ring, 3));
    }
    // By the series as it is now: a date that was moved behind the clock rings once more.
    y.move(0, 10, 10, 200);
    due(1, () -> y.pass(100));
  }

  private static void p23Snooze() {
    Calendarhall x = fresh(23);
    x.addSeries(0, 10, 10, 30, 7, false);
    x.remind(0, 0);
    due(OUT, () -> x.snooze(0, 601));
    x.pass(20);
    due(OUT, () -> x.snooze(1, 1));
    due(OUT, () -> x.snooze(-1, 1));
    due(BAD, () -> x.snooze(0, 0));
    due(BAD, () -> x.snooze(0, 601));
    due(15020, () -> x.snooze(0, 600));
    for (int k = 1; k < 10; k++) {
      int minutes = k;
      due(14420 + minutes, () -> x.snooze(0, minutes));
    }
    due(STATE, () -> x.snooze(0, 1));
    due(BAD, () -> x.snooze(0, 0));
    due(1, () -> x.pass(1));
    due(1, () -> x.ringAt(1, 3));
    due(14421, () -> x.ringAt(1, 2));
    due(10, () -> x.ringAt(1, 1));
    // One came, so there is a place again; a snoozed one can be snoozed, whatever becomes of reminder and series.
    x.forget(0);
    x.dropSeries(0);
    due(14421 + 300, () -> x.snooze(1, 300));
    due(STATE, () -> x.snooze(0, 1));
    due(8, () -> x.pass(100));
    due(1, () -> x.pass(200));
    due(1, () -> x.pass(500));
    due(0, () -> x.pass(1440));
    due(12, () -> x.rings());

    // One comes, the others stay as they are; and undo brings back the one that came.
    Calendarhall y = fresh(23);
    y.addSeries(0, 10, 10, 30, 7, false);
    for (int k = 0; k < 3; k++) y.remind(0, k);
    y.pass(20);
    for (int k = 0; k < 3; k++) y.snooze(k, 5 + 5 * k);
    for (int turn = 0; turn < 2; turn++) {
      due(1, () -> y.pass(5));
      due(2, () -> y.ringAt(3, 0));
      due(1, () -> y.pass(5));
      due(1, () -> y.ringAt(4, 0));
      due(1, () -> y.pass(5));
      due(0, () -> y.ringAt(5, 0));
      due(14435, () -> y.ringAt(5, 2));
      due(0, () -> y.pass(100));
      for (int k = 0; k < 4; k++) y.undo();
    }
  }

  private static void p24Change() {
    Calendarhall x = fresh(24);
    due(OUT, () -> x.change(2, 12, 0, 0));
    due(OUT, () -> x.change(-1, 0, 0, 0));
    due(BAD, () -> x.change(0, 12, 0, 0));
    due(BAD, () -> x.change(0, -1, 0, 0));
    due(BAD, () -> x.change(0, 0, 4, 0));
    due(BAD, () -> x.change(0, 0, -1, 0));
    due(BAD, () -> x.change(0, 0, 0, -1));
    due(BAD, () -> x.change(0, 0, 0, 1000));
    for (int k = 1; k <= 40; k++) {
      int clock = k;
      due(clock, () -> x.change(1, 11, 3, 999));
    }
    due(STATE, () -> x.change(1, 0, 0, 0));
    due(BAD, () -> x.change(1, 0, 0, 1000));
    due(1, () -> x.change(0, 0, 0, 0));
    x.deliver(1, 39);
    due(41, () -> x.change(0, 0, 0, 1));
  }

  private static void p25Deliver() {
    Calendarhall x = fresh(25);
    x.change(0, 1, 1, 10);
    x.change(0, 1, 1, 20);
    x.change(1, 1, 1, 30);
    due(OUT, () -> x.deliver(0, 2));
    due(OUT, () -> x.deliver(0, -1));
    due(OUT, () -> x.deliver(1, 1));
    due(OUT, () -> x.deliver(2, 0));
    due(OUT, () -> x.deliver(-1, 0));
    // Like clocks: the one of the device 1 is shown, on both.
    due(1, () -> x.deliver(0, 0));
    due(30, () -> x.shown(1, 1, 1));
    due(2, () -> x.deliver(0, 1));
    due(20, () -> x.shown(1, 1, 1));
    due(2, () -> x.deliver(1, 0));
    due(20, () -> x.shown(0, 1, 1));
    due(2, () -> x.deliver(0, 0));
    due(20, () -> x.shown(1, 1, 1));
    due(3, () -> x.change(1, 1, 1, 40));
    due(3, () -> x.deliver(1, 1));
    due(40, () -> x.shown(0, 1, 1));
    due(3, () -> x.deliver(1, 1));
    Calendarhall y = fresh(25);
    y.change(0, 0, 0, 1);
    y.change(1, 0, 0, 2);
    y.deliver(1, 0);
    y.deliver(0, 0);
    due(2, () -> y.shown(0, 0, 0));
    due(2, () -> y.shown(1, 0, 0));
  }

  private static void p26Undo() {
    Calendarhall x = fresh(26);
    due(STATE, () -> x.undo());
    for (int k = 0; k < 11; k++) x.pass(1);
    due(BAD, () -> x.pass(0));
    for (int k = 7; k >= 0; k--) {
      int left = k;
      due(left, () -> x.undo());
    }
    due(STATE, () -> x.undo());
    due(14403, () -> x.now());
    x.pass(1);
    x.pass(1);
    due(1, () -> x.undo());
    x.pass(5);
    due(1, () -> x.undo());
    due(0, () -> x.undo());
    due(14403, () -> x.now());
    // A change by which nothing is different is one, a question is none.
    x.setZone(0, 0, 0);
    x.layRooms(FIRST, FIRST + 1);
    x.plan(1, FIRST, FIRST + 1);
    x.type(7);
    due(0, () -> x.undo());
    due(STATE, () -> x.undo());
    due(1, () -> x.clearText());
    due(0, () -> x.applyPlan());
  }

  private static Calendarhall full() {
    Calendarhall x = fresh(26);
    x.setZone(1, 60, 60);
    x.addSeries(0, 10, 10, 30, 7, true);
    x.setRule(0, 1, 1, 0, 0);
    x.addSeries(1, 10, 70, 60, 7, true);
    x.setRule(1, 2, 1, 31, 0);
    x.move(0, 13, 20, 600);
    x.leaveOut(0, 14);
    x.counter(0, 1, 300);
    x.remind(0, 0);
    x.pass(20);
    x.snooze(0, 10);
    x.change(0, 3, 2, 17);
    type(x, "every 5 days");
    x.plan(3, FIRST + DAY, FIRST + 2 * DAY);
    return x;
  }

  /** That each kind of change is undone whole is tested by EdgesOfTerms; here is what only later changes tell. */
  private static void p26UndoOfAll() {
    Calendarhall x = full();
    x.setRoom(2, 9);
    x.undo();
    due(2, () -> x.setRoom(2, 2));
    x.undo();
    x.snooze(0, 11);
    x.undo();
    due(1, () -> x.pass(40));
    x.undo();
    x.deliver(0, 0);
    x.change(0, 3, 2, 18);
    x.undo();
    due(OUT, () -> x.deliver(0, 1));
    x.undo();
    due(1, () -> x.change(1, 0, 0, 0));
    // What is not brought back.
    due(12, () -> x.type(0));

    // The clocks by which a device shows: what comes behind an undone change is shown.
    Calendarhall y = fresh(26);
    y.change(1, 0, 0, 5);
    y.change(0, 0, 0, 6);
    y.change(0, 0, 0, 7);
    y.undo();
    due(6, () -> y.shown(0, 0, 0));
    due(1, () -> y.deliver(1, 0));
    due(5, () -> y.shown(0, 0, 0));
    y.undo();
    due(6, () -> y.shown(0, 0, 0));
    due(2, () -> y.change(0, 0, 0, 8));

    // The rings that were kept, also those that fell out.
    Calendarhall z = fresh(26);
    z.addSeries(0, 10, 600, 30, 7, false);
    z.setRule(0, 1, 1, 0, 0);
    for (int k = 0; k < 10; k++) z.remind(0, k);
    for (int k = 0; k < 4; k++) z.pass(1440);
    due(11, () -> z.ringAt(0, 1));
    z.undo();
    due(10, () -> z.ringAt(0, 1));
    due(12, () -> z.ringAt(29, 1));
    z.undo();
    due(20, () -> z.rings());
    due(11, () -> z.ringAt(19, 1));
  }

  private static void p27DayOf() {
    Calendarhall x = fresh(27);
    due(0, () -> x.dayOf(2000, 1, 1));
    due(59, () -> x.dayOf(2000, 2, 29));
    due(60, () -> x.dayOf(2000, 3, 1));
    due(366, () -> x.dayOf(2001, 1, 1));
    due(146096, () -> x.dayOf(2399, 12, 31));
    due(36525, () -> x.dayOf(2100, 1, 1));
    due(36525 + 59, () -> x.dayOf(2100, 3, 1));
    due(NONE, () -> x.dayOf(2100, 2, 29));
    due(NONE, () -> x.dayOf(2001, 2, 29));
    due(NONE, () -> x.dayOf(2000, 2, 30));
    due(NONE, () -> x.dayOf(2000, 4, 31));
    due(NONE, () -> x.dayOf(2000, 1, 0));
    due(NONE, () -> x.dayOf(2000, 1, LEAST));
    due(NONE, () -> x.dayOf(2000, 12, MOST));
    due(BAD, () -> x.dayOf(1999, 12, 31));
    due(BAD, () -> x.dayOf(2400, 1, 1));
    due(BAD, () -> x.dayOf(2000, 0, 1));
    due(BAD, () -> x.dayOf(2000, 13, 1));
  }

  private static void p28DayAt() {
    Calendarhall x = fresh(28);
    int[][] want = {
      {0, 2000, 1, 1, 5, 1}, {59, 2000, 2, 29, 1, 60}, {365, 2000, 12, 31, 6, 366}, {366, 2001, 1, 1, 0, 1},
      {36524, 2099, 12, 31, 3, 365}, {36583, 2100, 2, 28, 6, 59}, {36584, 2100, 3, 1, 0, 60}, {146096, 2399, 12, 31, 4, 365}
    };
    for (int[] w : want) for (int k = 0; k < 5; k++) {
      int what = k;
      due(w[k + 1], () -> x.dayAt(w[0], what));
    }
    due(BAD, () -> x.dayAt(-1, 0));
    due(BAD, () -> x.dayAt(146097, 0));
    due(BAD, () -> x.dayAt(0, -1));
    due(BAD, () -> x.dayAt(0, 5));
    due(BAD, () -> x.dayAt(LEAST, MOST));
  }

  private static void p29ToLocal() {
    Calendarhall x = fresh(29);
    x.setZone(0, -720, 120);
    // Without summer by the standard clock; at the 26th of March, day 85, the minute 120 of it is the common minute 840.
    due(FIRST - 720, () -> x.toLocal(0, FIRST));
    due(85 * DAY + 119, () -> x.toLocal(0, 85 * DAY + 839));
    due(85 * DAY + 240, () -> x.toLocal(0, 85 * DAY + 840));
    due(302 * DAY + 239, () -> x.toLocal(0, 302 * DAY + 839));
    due(302 * DAY + 120, () -> x.toLocal(0, 302 * DAY + 840));
    // The day 146000 is the 26th of September 2399.
    due(LAST - 720 + 120, () -> x.toLocal(0, LAST));
    x.setZone(1, 840, 0);
    due(LAST + 840, () -> x.toLocal(1, LAST));
    due(OUT, () -> x.toLocal(3, 0));
    due(OUT, () -> x.toLocal(-1, FIRST));
    due(BAD, () -> x.toLocal(0, FIRST - 1));
    due(BAD, () -> x.toLocal(0, LAST + 1));
    due(BAD, () -> x.toLocal(0, LEAST));
    // Each minute about the switches is told as the plain model does.
    Model m = new Model();
    m.setZone(0, -720, 120);
    for (int d : new int[] {85, 302, 85 + 365, 36524}) {
      Calendarhall y = fresh(29);
      y.setZone(0, -720, 120);
      for (int k = d * DAY; k < d * DAY + 2000; k += 7) {
        int minute = k;
        due(m.toLocal(0, minute), () -> y.toLocal(0, minute));
      }
    }
  }

  private static void p30ToCommon() {
    Calendarhall x = fresh(30);
    x.setZone(0, 60, 60);
    due(FIRST, () -> x.toCommon(0, FIRST + 60, false));
    due(NONE, () -> x.toCommon(0, FIRST + 60, true));
    due(FIRST - 60, () -> x.toCommon(0, FIRST, false));
    due(122459, () -> x.toCommon(0, 122519, false));
    due(NONE, () -> x.toCommon(0, 122520, false));
    due(NONE, () -> x.toCommon(0, 122579, false));
    due(NONE, () -> x.toCommon(0, 122579, true));
    due(122460, () -> x.toCommon(0, 122580, false));
    due(434879, () -> x.toCommon(0, 434999, false));
    due(NONE, () -> x.toCommon(0, 434999, true));
    due(434880, () -> x.toCommon(0, 435000, false));
    due(434940, () -> x.toCommon(0, 435000, true));
    due(434999, () -> x.toCommon(0, 435059, true));
    due(NONE, () -> x.toCommon(0, 435060, true));
    due(435000, () -> x.toCommon(0, 435060, false));
    x.setZone(0, 60, 0);
    due(122460, () -> x.toCommon(0, 122520, false));
    due(NONE, () -> x.toCommon(0, 435000, true));
    due(LAST - 60, () -> x.toCommon(0, LAST, false));
    due(OUT, () -> x.toCommon(3, 0, false));
    due(BAD, () -> x.toCommon(0, FIRST - 1, false));
    due(BAD, () -> x.toCommon(0, LAST + 1, true));
  }

  private static void p31SeriesAt() {
    Calendarhall x = fresh(31);
    x.addSeries(2, 12, 600, 30, 5, true);
    x.setRule(0, 4, 3, 65, -2);
    x.setEnd(0, 1, 44);
    x.leaveOut(0, x.nextDay(0, 10));
    int[] want = {2, 12, 600, 30, 5, 1, 4, 3, 65, -2, 1, 44, 1};
    for (int k = 0; k < 13; k++) {
      int what = k;
      due(want[k], () -> x.seriesAt(0, what));
    }
    due(OUT, () -> x.seriesAt(1, 13));
    due(OUT, () -> x.seriesAt(-1, 0));
    due(OUT, () -> x.seriesAt(12, 0));
    due(BAD, () -> x.seriesAt(0, 13));
    due(BAD, () -> x.seriesAt(0, -1));
  }

  private static void p32NextDay() {
    Calendarhall x = fresh(32);
    x.addSeries(0, 20, 600, 30, 0, false);
    due(20, () -> x.nextDay(0, 10));
    due(20, () -> x.nextDay(0, 20));
    due(NONE, () -> x.nextDay(0, 21));
    x.setRule(0, 1, 7, 0, 0);
    x.leaveOut(0, 27);
    due(27, () -> x.nextDay(0, 21));
    due(NONE, () -> x.nextDay(0, 146000));
    due(20 + 7 * 20853, () -> x.nextDay(0, 145990));
    due(OUT, () -> x.nextDay(1, 9));
    due(BAD, () -> x.nextDay(0, 9));
    due(BAD, () -> x.nextDay(0, 146001));
    // The first day is one only if the rule holds of it.
    x.setRule(0, 3, 1, 0, 1);
    due(31, () -> x.nextDay(0, 10));
    x.setEnd(0, 2, 30);
    due(NONE, () -> x.nextDay(0, 10));
    // The day 146000 is the 26th of September 2399, a Sunday.
    x.addSeries(0, 145000, 600, 30, 0, false);
    x.setRule(1, 3, 1, 0, 26);
    due(146000, () -> x.nextDay(1, 145990));
    x.setRule(1, 3, 1, 0, 27);
    due(NONE, () -> x.nextDay(1, 145990));
    x.setRule(1, 4, 1, 64, -1);
    due(146000, () -> x.nextDay(1, 145990));
  }

  private static void p33CountDays() {
    Calendarhall x = fresh(33);
    x.addSeries(0, 20, 600, 30, 0, false);
    x.setRule(0, 1, 1, 0, 0);
    x.leaveOut(0, 25);
    due(145981, () -> x.countDays(0, 10, 146000));
    due(1, () -> x.countDays(0, 20, 20));
    due(0, () -> x.countDays(0, 10, 19));
    x.setRule(0, 2, 2, 127, 0);
    // The day 20 is a Friday: 20 to 22, then 30 to 36.
    due(3, () -> x.countDays(0, 10, 29));
    due(10, () -> x.countDays(0, 10, 40));
    due(4, () -> x.countDays(0, 22, 32));
    x.setRule(0, 3, 1, 0, 31);
    due(7 * 400 - 2, () -> x.countDays(0, 10, 146000));
    x.setRule(0, 5, 1, 0, 0);
    due(400, () -> x.countDays(0, 10, 146000));
    due(OUT, () -> x.countDays(1, 9, 9));
    due(BAD, () -> x.countDays(0, 9, 20));
    due(BAD, () -> x.countDays(0, 20, 19));
    due(BAD, () -> x.countDays(0, 20, 146001));
  }

  private static void p34DayOfSeries() {
    Calendarhall x = fresh(34);
    x.addSeries(0, 20, 600, 30, 0, false);
    due(20, () -> x.dayOfSeries(0, 0));
    due(MISSING, () -> x.dayOfSeries(0, 1));
    x.setRule(0, 1, 99, 0, 0);
    x.leaveOut(0, 119);
    due(119, () -> x.dayOfSeries(0, 1));
    due(20 + 99 * 500, () -> x.dayOfSeries(0, 500));
    due(OUT, () -> x.dayOfSeries(1, 501));
    due(BAD, () -> x.dayOfSeries(0, 501));
    due(BAD, () -> x.dayOfSeries(0, -1));
    x.setEnd(0, 1, 500);
    due(MISSING, () -> x.dayOfSeries(0, 500));
    x.setRule(0, 5, 1, 0, 0);
    due(MISSING, () -> x.dayOfSeries(0, 400));
    x.setEnd(0, 2, 20);
    due(MISSING, () -> x.dayOfSeries(0, 1));
  }

  private static void p35Begin() {
    Calendarhall x = fresh(35);
    x.setZone(1, 60, 60);
    x.addSeries(1, 84, 150, 30, 0, false);
    x.setRule(0, 1, 1, 0, 0);
    due(84 * DAY + 150 - 60, () -> x.begin(0, 84));
    // On the day 85 the local minute 150 is told by none: it is the local minute less the offset.
    due(85 * DAY + 150 - 60, () -> x.begin(0, 85));
    due(86 * DAY + 150 - 120, () -> x.begin(0, 86));
    due(302 * DAY + 150 - 120, () -> x.begin(0, 302));
    due(303 * DAY + 150 - 60, () -> x.begin(0, 303));
    x.leaveOut(0, 87);
    due(NONE, () -> x.begin(0, 87));
    x.move(0, 88, 84, 0);
    due(84 * DAY - 60, () -> x.begin(0, 88));
    due(MISSING, () -> x.begin(0, 83));
    due(MISSING, () -> x.begin(0, 146001));
    due(MISSING, () -> x.begin(0, LEAST));
    due(MISSING, () -> x.begin(0, MOST));
    due(OUT, () -> x.begin(1, 84));
    // Before the first common minute that calls take.
    x.setZone(2, 840, 0);
    x.addSeries(2, 10, 0, 600, 1, false);
    due(FIRST - 840, () -> x.begin(1, 10));
  }

  private static void p36NextDate() {
    Calendarhall x = fresh(36);
    x.addSeries(0, 20, 600, 30, 0, false);
    due(20, () -> x.nextDate(0, FIRST));
    due(20, () -> x.nextDate(0, 20 * DAY + 600));
    due(NONE, () -> x.nextDate(0, 20 * DAY + 601));
    x.setRule(0, 1, 1, 0, 0);
    x.leaveOut(0, 20);
    due(21, () -> x.nextDate(0, FIRST));
    x.move(0, 30, 12, 0);
    due(30, () -> x.nextDate(0, FIRST));
    due(30, () -> x.nextDate(0, 12 * DAY));
    due(21, () -> x.nextDate(0, 12 * DAY + 1));
    // At the same minute: the lower day first.
    x.move(0, 22, 23, 600);
    due(22, () -> x.nextDate(0, 23 * DAY + 600));
    due(21, () -> x.nextDate(0, 21 * DAY));
    x.move(0, 24, 23, 600);
    due(22, () -> x.nextDate(0, 23 * DAY + 600));
    x.leaveOut(0, 22);
    x.leaveOut(0, 23);
    due(24, () -> x.nextDate(0, 23 * DAY + 600));
    due(31, () -> x.nextDate(0, 29 * DAY + 601));
    due(146000 - 1, () -> x.nextDate(0, LAST - DAY));
    due(146000, () -> x.nextDate(0, LAST));
    due(OUT, () -> x.nextDate(1, 0));
    due(BAD, () -> x.nextDate(0, FIRST - 1));
    due(BAD, () -> x.nextDate(0, LAST + 1));
    x.setZone(0, 840, 0);
    due(NONE, () -> x.nextDate(0, LAST));
    // Many days one behind the other that are left out.
    Calendarhall y = fresh(36);
    y.addSeries(0, 10, 600, 30, 0, false);
    y.setRule(0, 1, 1, 0, 0);
    for (int k = 0; k < 10; k++) y.leaveOut(0, 11 + k);
    due(21, () -> y.nextDate(0, 15001));
    due(1, () -> y.countDates(0, 15001, 21 * DAY + 601));
  }

  /** Begins are found to the minute, in all zones and about their switches. */
  private static void p36ToTheMinute() {
    for (int offset : new int[] {-720, -15, 0, 840}) for (int shift : new int[] {0, 15, 120}) for (int minute : new int[] {0, 150, 1439}) {
      Calendarhall x = fresh(36);
      x.setZone(0, offset, shift);
      x.addSeries(0, 12, minute, 30, 1, false);
      x.setRule(0, 1, 1, 0, 0);
      for (int d : new int[] {13, 20, 84, 85, 86, 87, 200, 301, 302, 303, 304}) {
        int begin = x.begin(0, d);
        due(d, () -> x.nextDate(0, begin));
        due(d + 1, () -> x.nextDate(0, begin + 1));
        due(1, () -> x.countDates(0, begin, begin + 1));
        due(0, () -> x.countDates(0, begin + 1, begin + 120));
        due(0, () -> x.countDates(0, begin - 120, begin));
        due(2, () -> x.countDates(0, begin, x.begin(0, d + 1) + 1));
        due(1, () -> x.datesAt(0, begin + 29));
        due(0, () -> x.datesAt(0, begin + 30));
        due(0, () -> x.datesAt(0, begin - 1));
        due(1, () -> x.minutesOf(0, begin + 29, begin + 100, 0));
        due(0, () -> x.minutesOf(0, begin + 30, begin + 100, 0));
        due(1, () -> x.minutesOf(0, begin - 100, begin + 1, 0));
      }
    }
  }

  private static void p37CountDates() {
    Calendarhall x = fresh(37);
    x.addSeries(0, 10, 600, 30, 0, false);
    x.setRule(0, 1, 1, 0, 0);
    due(365, () -> x.countDates(0, FIRST, FIRST + 525600));
    due(0, () -> x.countDates(0, FIRST, 15000));
    due(1, () -> x.countDates(0, FIRST, 15001));
    due(1, () -> x.countDates(0, 15000, 15001));
    due(0, () -> x.countDates(0, 15001, 15002));
    x.leaveOut(0, 11);
    x.move(0, 500, 12, 0);
    x.move(0, 13, 600, 0);
    due(364, () -> x.countDates(0, FIRST, FIRST + 525600));
    due(1, () -> x.countDates(0, 12 * DAY, 12 * DAY + 1));
    due(0, () -> x.countDates(0, 12 * DAY - 1, 12 * DAY));
    due(0, () -> x.countDates(0, 12 * DAY + 1, 12 * DAY + 2));
    due(OUT, () -> x.countDates(1, 0, 0));
    due(BAD, () -> x.countDates(0, FIRST, FIRST));
    due(BAD, () -> x.countDates(0, FIRST + 1, FIRST));
    due(BAD, () -> x.countDates(0, FIRST, FIRST + 525601));
    due(BAD, () -> x.countDates(0, FIRST - 1, FIRST + 1));
    due(BAD, () -> x.countDates(0, LAST, LAST + 1));
    due(1, () -> x.countDates(0, LAST - 900, LAST));
  }

  private static void p38AnswerOf() {
    Calendarhall x = fresh(38);
    x.addSeries(0, 10, 600, 30, 129, false);
    due(0, () -> x.answerOf(0, 7));
    x.answer(0, 7, 3);
    due(3, () -> x.answerOf(0, 7));
    due(0, () -> x.answerOf(0, 0));
    due(NONE, () -> x.answerOf(0, 1));
    due(OUT, () -> x.answerOf(0, 8));
    due(OUT, () -> x.answerOf(0, -1));
    due(OUT, () -> x.answerOf(1, 0));
  }

  private static void p39CounterOf() {
    Calendarhall x = fresh(39);
    x.addSeries(0, 10, 600, 30, 129, false);
    due(NONE, () -> x.counterOf(0, 7));
    x.counter(0, 7, 0);
    due(0, () -> x.counterOf(0, 7));
    due(NONE, () -> x.counterOf(0, 0));
    due(NONE, () -> x.counterOf(0, 1));
    due(OUT, () -> x.counterOf(0, 8));
    due(OUT, () -> x.counterOf(0, -1));
    due(OUT, () -> x.counterOf(1, 0));
  }

  private static void p40DatesAt() {
    Calendarhall x = fresh(40);
    x.addSeries(0, 10, 600, 60, 1, false);
    x.addSeries(0, 10, 630, 600, 3, false);
    due(0, () -> x.datesAt(0, 14999));
    due(1, () -> x.datesAt(0, 15000));
    due(2, () -> x.datesAt(0, 15030));
    due(2, () -> x.datesAt(0, 15059));
    due(1, () -> x.datesAt(0, 15060));
    due(1, () -> x.datesAt(0, 15629));
    due(0, () -> x.datesAt(0, 15630));
    due(1, () -> x.datesAt(1, 15030));
    due(0, () -> x.datesAt(2, 15030));
    x.answer(1, 0, 2);
    due(1, () -> x.datesAt(0, 15030));
    // One that began ahead of the first minute that calls take.
    x.setZone(1, 300, 0);
    x.addSeries(1, 10, 0, 301, 4, false);
    due(1, () -> x.datesAt(2, FIRST));
    due(0, () -> x.datesAt(2, FIRST + 1));
    due(OUT, () -> x.datesAt(8, 0));
    due(OUT, () -> x.datesAt(-1, FIRST));
    due(BAD, () -> x.datesAt(0, FIRST - 1));
    due(BAD, () -> x.datesAt(0, LAST + 1));
  }

  private static void p41MinutesOf() {
    Calendarhall x = fresh(41);
    x.addSeries(0, 10, 500, 60, 1, false);
    x.addSeries(0, 10, 530, 60, 1, false);
    x.setRule(1, 1, 1, 0, 0);
    due(90, () -> x.minutesOf(0, FIRST, FIRST + DAY, 0));
    due(480, () -> x.minutesOf(0, FIRST, FIRST + DAY, 1));
    due(50, () -> x.minutesOf(0, FIRST, FIRST + DAY, 2));
    due(90 + 13 * 60, () -> x.minutesOf(0, FIRST, FIRST + 14 * DAY, 0));
    due(10 * 480, () -> x.minutesOf(0, FIRST, FIRST + 14 * DAY, 1));
    due(10 * 50, () -> x.minutesOf(0, FIRST, FIRST + 14 * DAY, 2));
    due(10, () -> x.minutesOf(0, FIRST + 550, FIRST + 560, 0));
    due(0, () -> x.minutesOf(1, FIRST, FIRST + DAY, 0));
    // Work minutes on the day of a switch: from 0 to 240 on the 26th of March 2000, day 85, of which an hour is none.
    x.setZone(1, 0, 60);
    x.setPerson(2, 1, 127, 0, 240);
    due(180, () -> x.minutesOf(2, 85 * DAY, 86 * DAY - 120, 1));
    due(300, () -> x.minutesOf(2, 302 * DAY - 60, 302 * DAY + 600, 1));
    due(OUT, () -> x.minutesOf(8, 0, 0, 3));
    due(BAD, () -> x.minutesOf(0, FIRST, FIRST + 20161, 0));
    due(BAD, () -> x.minutesOf(0, FIRST, FIRST, 0));
    due(BAD, () -> x.minutesOf(0, FIRST - 1, FIRST, 0));
    due(BAD, () -> x.minutesOf(0, FIRST, FIRST + 1, 3));
    due(BAD, () -> x.minutesOf(0, FIRST, FIRST + 1, -1));
  }

  /** Work hours about switches on the first days of months, each minute looked at by the model. */
  private static void p41AboutSwitches() {
    int[][] switches = {{4, 1, 5, 0}, {4, 1, 5, 100}, {3, 5, 4, 1439}, {3, 5, 4, 1380}, {4, 1, 5, 1300}, {4, 1, 6, 60}};
    int[][] hours = {{0, 1440}, {0, 60}, {90, 200}, {1380, 1440}, {540, 1020}, {30, 1410}};
    promise = 41;
    // The 1st of April 2000 is a Saturday, day 91; the other switch is far away.
    for (int[] w : switches) for (boolean isForth : new boolean[] {true, false}) for (int shift : new int[] {15, 120}) {
      Calendarhall x = new Calendarhall();
      Model m = new Model();
      x.setSwitch(0, !isForth, 8, 1, 0, 0);
      m.setSwitch(0, !isForth, 8, 1, 0, 0);
      x.setSwitch(0, isForth, w[0], w[1], w[2], w[3]);
      m.setSwitch(0, isForth, w[0], w[1], w[2], w[3]);
      x.setZone(0, 60, shift);
      m.setZone(0, 60, shift);
      for (int k = 0; k < hours.length; k++) {
        int p = k;
        x.setPerson(p, 0, 127, hours[p][0], hours[p][1]);
        m.setPerson(p, 0, 127, hours[p][0], hours[p][1]);
        for (int from : new int[] {87 * DAY, 90 * DAY + 100, 90 * DAY + 1310}) for (int to : new int[] {91 * DAY + 77, 92 * DAY, 93 * DAY + 700}) {
          due(m.minutesOf(p, from, to, 1), () -> x.minutesOf(p, from, to, 1));
          due(m.freeNext(1 << p, from, to, 61, true), () -> x.freeNext(1 << p, from, to, 61, true));
          due(m.best(1 << p, from, to, 400, false), () -> x.best(1 << p, from, to, 400, false));
        }
      }
    }
  }

  private static void p42FreeNext() {
    Calendarhall x = fresh(42);
    x.addSeries(0, 10, 540, 60, 1, false);
    x.addSeries(0, 10, 630, 60, 2, false);
    int day = FIRST + DAY;
    due(FIRST, () -> x.freeNext(3, FIRST, day, 540, false));
    due(FIRST + 690, () -> x.freeNext(3, FIRST, day, 541, false));
    due(FIRST + 600, () -> x.freeNext(3, FIRST, day, 30, true));
    due(FIRST + 690, () -> x.freeNext(3, FIRST, day, 31, true));
    due(FIRST + 540, () -> x.freeNext(2, FIRST, day, 90, true));
    due(FIRST + 690, () -> x.freeNext(2, FIRST, day, 91, true));
    due(FIRST + 540, () -> x.freeNext(4, FIRST, day, 480, true));
    due(NONE, () -> x.freeNext(4, FIRST, day, 481, true));
    due(NONE, () -> x.freeNext(4, FIRST, day + 12 * DAY, 481, true));
    // All minutes are in the piece.
    due(FIRST + 840, () -> x.freeNext(4, FIRST + 840, day, 600, false));
    due(NONE, () -> x.freeNext(4, FIRST + 841, day, 600, false));
    x.setPerson(3, 0, 0, 0, 1440);
    due(NONE, () -> x.freeNext(12, FIRST, day, 1, true));
    due(FIRST, () -> x.freeNext(12, FIRST, day, 1, false));
    // Work hours that go on over midnight.
    x.setPerson(4, 0, 127, 0, 1440);
    due(FIRST + 1400, () -> x.freeNext(16, FIRST + 1400, FIRST + 2000, 600, true));
    due(BAD, () -> x.freeNext(0, FIRST, day, 1, false));
    due(BAD, () -> x.freeNext(256, FIRST, day, 1, false));
    due(BAD, () -> x.freeNext(1, FIRST, FIRST + 20161, 1, false));
    due(BAD, () -> x.freeNext(1, FIRST, FIRST, 1, false));
    due(BAD, () -> x.freeNext(1, FIRST, day, 0, false));
    due(BAD, () -> x.freeNext(1, FIRST, day, 601, false));
  }

  private static void p43Best() {
    Calendarhall x = fresh(43);
    x.addSeries(0, 10, 540, 60, 1, false);
    int day = FIRST + DAY;
    due(FIRST + 600, () -> x.best(1, FIRST, day, 60, false));
    due(0, () -> x.best(1, FIRST, day, 60, true));
    // Only at these times: not at work costs 1, busy costs 3.
    due(FIRST + 475, () -> x.best(1, FIRST + 475, FIRST + 585, 60, false));
    due(1, () -> x.best(1, FIRST + 475, FIRST + 585, 60, true));
    due(FIRST + 500, () -> x.best(1, FIRST + 500, FIRST + 580, 60, false));
    due(3, () -> x.best(1, FIRST + 500, FIRST + 580, 60, true));
    due(4, () -> x.best(3, FIRST + 500, FIRST + 580, 60, true));
    due(3 + 1, () -> x.best(3, FIRST + 530, FIRST + 560, 30, true));
    due(FIRST + 1, () -> x.best(255, FIRST + 1, FIRST + 61, 60, false));
    due(8, () -> x.best(255, FIRST + 1, FIRST + 61, 60, true));
    due(NONE, () -> x.best(1, FIRST, FIRST + 59, 60, false));
    due(NONE, () -> x.best(1, FIRST, FIRST + 59, 60, true));
    due(FIRST + 16 * DAY - 10 * DAY + 540, () -> x.best(2, FIRST + 4 * DAY, FIRST + 11 * DAY, 480, false));
    due(BAD, () -> x.best(0, FIRST, day, 1, false));
    due(BAD, () -> x.best(256, FIRST, day, 1, false));
    due(BAD, () -> x.best(1, FIRST, FIRST + 10081, 1, false));
    due(BAD, () -> x.best(1, FIRST, day, 0, false));
    due(BAD, () -> x.best(1, FIRST, day, 601, false));
    due(BAD, () -> x.best(1, LAST, LAST, 1, false));
  }

  private static void dueClash(Calendarhall x, int clash, int... want) {
    for (int k = 0; k < 4; k++) {
      int what = k;
      due(want[k], () -> x.clashAt(clash, what));
    }
  }

  private static void p44Clashes() {
    Calendarhall x = fresh(44);
    int day = FIRST + DAY;
    x.addSeries(0, 10, 600, 60, 1, true);
    x.addSeries(0, 10, 660, 60, 1, true);
    x.addSeries(0, 10, 659, 60, 3, true);
    due(2, () -> x.clashes(0, FIRST, day));
    dueClash(x, 0, 0, 10, 2, 10);
    dueClash(x, 1, 2, 10, 1, 10);
    due(0, () -> x.clashes(1, FIRST, day));
    due(MISSING, () -> x.clashAt(0, 0));
    // Both begin in the piece.
    due(1, () -> x.clashes(0, FIRST + 601, day));
    due(1, () -> x.clashes(0, FIRST, FIRST + 660));
    // Rooms: 0 and 2 get the rooms 0 and 1, and so does 1 the room 0.
    x.answer(2, 0, 2);
    due(0, () -> x.layRooms(FIRST, day));
    due(0, () -> x.clashes(0, FIRST, day));
    x.edit(1, 0, 665);
    x.answer(2, 0, 1);
    x.edit(2, 0, 664);
    x.edit(2, 1, 1);
    // From the room 0 to the room 1 it takes 5 minutes: 4 are too few; from 1 to 0 there is none at all.
    due(2, () -> x.clashes(0, FIRST, day));
    dueClash(x, 0, 0, 10, 2, 10);
    dueClash(x, 1, 2, 10, 1, 10);
    x.setRoom(1, 0);
    due(0, () -> x.clashes(0, FIRST, day));
    // 45 minutes are the longest way.
    x.setRoom(1, 9);
    x.edit(2, 0, 704);
    x.edit(1, 0, 750);
    due(1, () -> x.clashes(0, FIRST, day));
    x.edit(2, 0, 705);
    due(1, () -> x.clashes(0, FIRST, day));
    dueClash(x, 0, 2, 10, 1, 10);
    x.edit(1, 0, 751);
    due(0, () -> x.clashes(0, FIRST, day));
    // From the building 7 to the building 4, and back, it takes 15 minutes.
    x.setRoom(0, 7);
    x.setRoom(1, 4);
    x.edit(0, 0, 600);
    x.edit(2, 0, 674);
    x.edit(1, 0, 689);
    due(2, () -> x.clashes(0, FIRST, day));
    x.edit(2, 0, 675);
    due(1, () -> x.clashes(0, FIRST, day));
    dueClash(x, 0, 2, 10, 1, 10);
    x.edit(1, 0, 691);
    due(0, () -> x.clashes(0, FIRST, day));
    due(OUT, () -> x.clashes(8, 0, 0));
    due(BAD, () -> x.clashes(0, FIRST, FIRST + 10081));
    due(BAD, () -> x.clashes(0, FIRST, FIRST));
  }

  /** As many clashes as can be: the dates of twelve series all at one time. */
  private static void p45ClashAt() {
    Calendarhall x = fresh(45);
    int kept = 0;
    for (int n = 0; n < 12; n++) {
      x.addSeries(0, 10, 600, 600, 1, false);
      x.setRule(n, 1, 1, 0, 0);
      for (int k = 1; k <= 10; k++) x.move(n, 30 + k, 10, 600);
    }
    // 132 dates at once, and twelve on each of the six days behind.
    int all = 132 * 131 / 2 + 6 * 66;
    due(all, () -> x.clashes(0, FIRST, FIRST + 10080));
    for (int i = 0; i < 131; i++) for (int j = i + 1; j < 132; j++, kept++) {
      boolean isProbe = (i * 131 + j) % 997 == 0;
      if (!isProbe) continue;
      int a = i, b = j;
      dueClash(x, kept, a / 11, a % 11 == 0 ? 10 : 30 + a % 11, b / 11, b % 11 == 0 ? 10 : 30 + b % 11);
    }
    dueClash(x, all - 1, 10, 16, 11, 16);
    due(MISSING, () -> x.clashAt(all, 0));
    due(BAD, () -> x.clashAt(all, 4));
    due(BAD, () -> x.clashAt(0, -1));
    due(BAD, () -> x.clashAt(-1, 0));
    // They are kept, whatever becomes of the dates.
    x.dropSeries(0);
    dueClash(x, 0, 0, 10, 0, 31);
    x.undo();
    dueClash(x, 0, 0, 10, 0, 31);
  }

  private static void p46RoomsNeeded() {
    Calendarhall x = fresh(46);
    int day = FIRST + DAY;
    due(0, () -> x.roomsNeeded(FIRST, day));
    x.addSeries(0, 10, 600, 60, 1, true);
    x.addSeries(0, 10, 660, 60, 1, true);
    due(1, () -> x.roomsNeeded(FIRST, day));
    x.addSeries(0, 10, 650, 60, 1, true);
    due(2, () -> x.roomsNeeded(FIRST, day));
    x.addSeries(0, 10, 600, 61, 1, false);
    due(2, () -> x.roomsNeeded(FIRST, day));
    x.edit(3, 3, 1);
    due(3, () -> x.roomsNeeded(FIRST, day));
    // Behind the piece they are on together, but all begin in it.
    due(2, () -> x.roomsNeeded(FIRST, FIRST + 650));
    due(3, () -> x.roomsNeeded(FIRST, FIRST + 651));
    due(2, () -> x.roomsNeeded(FIRST + 601, day));
    due(BAD, () -> x.roomsNeeded(FIRST, FIRST + 10081));
    due(BAD, () -> x.roomsNeeded(FIRST, FIRST));
  }

  private static void p47LayRooms() {
    Calendarhall x = fresh(47);
    int day = FIRST + DAY;
    due(0, () -> x.layRooms(FIRST, day));
    for (int k = 0; k < 6; k++) x.addSeries(0, 10, 600 + 10 * k, 60, 1, k != 3);
    due(1, () -> x.layRooms(FIRST, day));
    int[] want = {0, 1, 2, 9, 3, NONE};
    for (int k = 0; k < 6; k++) {
      int n = k;
      if (k != 3) due(want[k], () -> x.roomOf(n, 10));
    }
    due(MISSING, () -> x.roomOf(3, 10));
    // At the end of a date its room is free, and the lowest one is taken.
    x.edit(5, 0, 660);
    due(0, () -> x.layRooms(FIRST, day));
    due(0, () -> x.roomOf(5, 10));
    due(0, () -> x.layRooms(FIRST + 601, day));
    due(MISSING, () -> x.roomOf(0, 10));
    due(0, () -> x.roomOf(1, 10));
    due(BAD, () -> x.layRooms(FIRST, FIRST + 10081));
    due(BAD, () -> x.layRooms(FIRST, FIRST));
    due(0, () -> x.roomOf(1, 10));
  }

  private static void p48RoomOf() {
    Calendarhall x = fresh(48);
    x.addSeries(0, 10, 600, 60, 1, true);
    x.setRule(0, 1, 1, 0, 0);
    x.move(0, 11, 10, 630);
    x.layRooms(FIRST, FIRST + 10080);
    due(0, () -> x.roomOf(0, 10));
    due(1, () -> x.roomOf(0, 11));
    due(0, () -> x.roomOf(0, 12));
    due(MISSING, () -> x.roomOf(0, 17));
    due(MISSING, () -> x.roomOf(1, 10));
    due(MISSING, () -> x.roomOf(-1, -1));
    due(MISSING, () -> x.roomOf(MOST, LEAST));
    x.dropSeries(0);
    due(1, () -> x.roomOf(0, 11));
    x.undo();
    due(1, () -> x.roomOf(0, 11));
  }

  private static void p49Plan() {
    Calendarhall x = threeAtOnce(49);
    int day = FIRST + DAY;
    due(0, () -> x.plan(1, FIRST, day));
    due(0, () -> x.plan(8, FIRST, day));
    due(MISSING, () -> x.planAt(0, 0));
    due(60, () -> x.plan(3 + 8, FIRST, day));
    due(120, () -> x.plan(7, FIRST, day));
    due(14940, () -> x.planAt(0, 2));
    due(15000, () -> x.planAt(1, 2));
    due(15060, () -> x.planAt(2, 2));
    // Each one still begins in the piece.
    due(60, () -> x.plan(3, 15000, day));
    due(15000, () -> x.planAt(0, 2));
    due(15060, () -> x.planAt(1, 2));
    due(60, () -> x.plan(3, FIRST, 15001));
    due(14940, () -> x.planAt(0, 2));
    due(NONE, () -> x.plan(3, 15000, 15060));
    due(MISSING, () -> x.planAt(0, 2));
    due(60, () -> x.plan(3, 15000, 15061));
    // Nobody takes part in both, so they may be on together.
    x.answer(1, 0, 2);
    due(0, () -> x.plan(3, FIRST, day));
    x.answer(1, 0, 3);
    x.edit(0, 1, 600);
    x.edit(1, 1, 600);
    due(NONE, () -> x.plan(3, FIRST, day));
    // 121 minutes are the most that two can be apart by 120: 240.
    x.edit(0, 1, 240);
    due(240, () -> x.plan(3, FIRST, day));
    due(14880, () -> x.planAt(0, 2));
    due(15120, () -> x.planAt(1, 2));
    x.edit(0, 1, 241);
    x.edit(1, 1, 241);
    due(NONE, () -> x.plan(3, FIRST, day));
    // At most five dates, and the plan of before stays.
    x.plan(1, FIRST, day);
    x.setRule(2, 1, 1, 0, 0);
    due(STATE, () -> x.plan(4, FIRST, FIRST + 6 * DAY));
    due(15000, () -> x.planAt(0, 2));
    due(0, () -> x.plan(4, FIRST, FIRST + 5 * DAY));
    due(14, () -> x.planAt(4, 1));
    due(BAD, () -> x.plan(0, FIRST, day));
    due(BAD, () -> x.plan(4096, FIRST, day));
    due(BAD, () -> x.plan(4, FIRST, FIRST + 10081));
    due(BAD, () -> x.plan(4, FIRST, FIRST));
    due(14, () -> x.planAt(4, 1));
  }

  private static void p50PlanAt() {
    Calendarhall x = threeAtOnce(50);
    x.edit(2, 0, 500);
    due(60, () -> x.plan(7, FIRST, FIRST + DAY));
    int[][] want = {{2, 10, 14900}, {0, 10, 14970}, {1, 10, 15030}};
    for (int k = 0; k < 3; k++) for (int w = 0; w < 3; w++) {
      int place = k, what = w;
      due(want[k][w], () -> x.planAt(place, what));
    }
    due(MISSING, () -> x.planAt(3, 0));
    due(MISSING, () -> x.planAt(MOST, 0));
    due(BAD, () -> x.planAt(0, 3));
    due(BAD, () -> x.planAt(0, -1));
    due(BAD, () -> x.planAt(9, 3));
    due(BAD, () -> x.planAt(-1, 0));
    // It is kept as it was made.
    x.dropSeries(2);
    due(14900, () -> x.planAt(0, 2));
    x.undo();
    due(14900, () -> x.planAt(0, 2));
  }

  private static void p51Now() {
    Calendarhall x = fresh(51);
    due(14400, () -> x.now());
    x.pass(1440);
    x.pass(1);
    due(15841, () -> x.now());
    x.addSeries(0, 10, 0, 1, 0, false);
    due(15841, () -> x.now());
  }

  private static void p52NextRing() {
    Calendarhall x = fresh(52);
    x.addSeries(0, 10, 600, 30, 7, false);
    x.setRule(0, 1, 1, 0, 0);
    x.setEnd(0, 1, 3);
    x.remind(0, 600);
    // The ring at the minute 14400 is not behind the clock.
    due(FIRST + DAY, () -> x.nextRing(0));
    x.leaveOut(0, 11);
    due(FIRST + 2 * DAY, () -> x.nextRing(0));
    x.move(0, 12, 10, 700);
    due(FIRST + 100, () -> x.nextRing(0));
    x.pass(99);
    due(FIRST + 100, () -> x.nextRing(0));
    x.pass(1);
    due(NONE, () -> x.nextRing(0));
    x.snooze(0, 5);
    due(NONE, () -> x.nextRing(0));
    x.dropSeries(0);
    due(NONE, () -> x.nextRing(0));
    due(OUT, () -> x.nextRing(1));
    due(OUT, () -> x.nextRing(-1));
    due(OUT, () -> x.nextRing(10));
    // Behind the last common minute that calls take.
    x.setZone(1, -720, 0);
    x.addSeries(1, 146000, 1439, 30, 7, false);
    due(LAST + 1439 + 720 - 600, () -> x.nextRing(0));
  }

  private static void p53Rings() {
    Calendarhall x = fresh(53);
    x.addSeries(0, 10, 600, 30, 7, false);
    x.setRule(0, 1, 1, 0, 0);
    x.remind(0, 0);
    for (int k = 0; k < 33; k++) {
      int before = k;
      due(Math.min(30, before), () -> x.rings());
      x.pass(1440);
    }
    due(30, () -> x.rings());
    due(13, () -> x.ringAt(0, 1));
    due(42, () -> x.ringAt(29, 1));
    // More than thirty at once: the latest ones stay.
    for (int k = 0; k < 9; k++) x.remind(0, 0);
    for (int k = 0; k < 3; k++) x.move(0, 100 + k, 43, 700 + k);
    due(40, () -> x.pass(1440));
    due(30, () -> x.rings());
    due(100, () -> x.ringAt(0, 1));
    due(0, () -> x.ringAt(0, 0));
    due(102, () -> x.ringAt(29, 1));
    due(9, () -> x.ringAt(29, 0));
  }

  private static void p54RingAt() {
    Calendarhall x = fresh(54);
    x.addSeries(0, 10, 600, 30, 7, false);
    x.remind(0, 0);
    x.remind(0, 5);
    x.pass(700);
    int[] want = {1, 10, 14995, 0};
    for (int k = 0; k < 4; k++) {
      int what = k;
      due(want[k], () -> x.ringAt(0, what));
    }
    due(15000, () -> x.ringAt(1, 2));
    due(OUT, () -> x.ringAt(2, 4));
    due(OUT, () -> x.ringAt(-1, 0));
    due(BAD, () -> x.ringAt(0, 4));
    due(BAD, () -> x.ringAt(0, -1));
  }

  private static void p55Shown() {
    Calendarhall x = fresh(55);
    due(NONE, () -> x.shown(1, 11, 3));
    x.change(1, 11, 3, 0);
    due(0, () -> x.shown(1, 11, 3));
    due(NONE, () -> x.shown(0, 11, 3));
    due(NONE, () -> x.shown(1, 11, 2));
    due(NONE, () -> x.shown(1, 10, 3));
    x.change(1, 11, 3, 999);
    due(999, () -> x.shown(1, 11, 3));
    // The earlier one comes behind the later one: the later one is shown.
    x.deliver(1, 1);
    x.deliver(1, 0);
    due(999, () -> x.shown(0, 11, 3));
    due(OUT, () -> x.shown(2, 12, 0));
    due(OUT, () -> x.shown(-1, 0, 0));
    due(BAD, () -> x.shown(0, 12, 0));
    due(BAD, () -> x.shown(0, -1, 0));
    due(BAD, () -> x.shown(0, 0, 4));
    due(BAD, () -> x.shown(0, 0, -1));
  }

  private static void p56AreAlike() {
    Calendarhall x = fresh(56);
    due(true, () -> x.areAlike());
    x.change(0, 11, 3, 5);
    due(false, () -> x.areAlike());
    // The same value by other changes shows the same.
    x.change(1, 11, 3, 5);
    due(true, () -> x.areAlike());
    x.change(1, 0, 0, 7);
    due(false, () -> x.areAlike());
    x.deliver(1, 1);
    due(true, () -> x.areAlike());
    x.change(0, 0, 0, 0);
    due(false, () -> x.areAlike());
    x.deliver(0, 1);
    due(true, () -> x.areAlike());
  }

  private static void p57Type() {
    Calendarhall x = fresh(57);
    due(0, () -> x.type(0));
    due(1, () -> x.type('o'));
    due(3, () -> x.type(0x6e00000000000063L));
    due(4, () -> x.type(0x0000650000000000L));
    due(NONE, () -> x.errorPlace());
    x.clearText();
    for (int k = 1; k <= 14; k++) {
      int length = 8 * k;
      due(length, () -> x.type(0x2020202020202020L));
    }
    due(119, () -> x.type(-1L >>> 8));
    due(STATE, () -> x.type(0x2020L));
    due(STATE, () -> x.type(-1L));
    due(119, () -> x.type(0));
    due(120, () -> x.type(Long.MIN_VALUE));
    due(STATE, () -> x.type(1));
    due(120, () -> x.type(0));
    due(112, () -> x.errorPlace());
    // Each of the eight bytes counts for itself.
    for (int k = 0; k < 8; k++) {
      long hole = ~(255L << 8 * k);
      Calendarhall y = fresh(57);
      for (int j = 0; j < 14; j++) y.type(-1L);
      due(113, () -> y.type(0x0100L));
      due(120, () -> y.type(hole));
      due(STATE, () -> y.type(-1L));
      due(120, () -> y.clearText());
      for (int j = 0; j < 113; j++) y.type(32);
      due(STATE, () -> y.type(-1L));
    }
  }

  private static void p58ClearText() {
    Calendarhall x = fresh(58);
    due(0, () -> x.clearText());
    x.type(0x6f6e6365L);
    due(4, () -> x.clearText());
    due(0, () -> x.clearText());
    due(0, () -> x.errorPlace());
    due(STATE, () -> x.undo());
  }

  private static void p59ErrorPlace() {
    Calendarhall x = fresh(59);
    Object[][] texts = {
      {"oncez", 0}, {"xnce", 0}, {"avery days", 0}, {"every xays", 6}, {"every weeks on xo", 15}, {"every weeks on mx", 15}, {"every daysz", 6},
      {"every months on xast", 16}, {"once xor 1", 5}, {"once for1", NONE}, {"", 0}, {"   ", 3}, {"once", NONE}, {" once ", NONE}, {"onc", 0}, {"oncee", 0}, {"once once", 5}, {"Once", 0}, {"once!", 4},
      {"on ce", 0}, {"every", 5}, {"every ", 6}, {"every 1", 7}, {"every 0 days", 6}, {"every 100 days", 6}, {"every 99 days", NONE},
      {"every 99999999999999999999999 days", 6}, {"every 4294967297 days", 6}, {"every 1 2 days", 8}, {"every days 5", 11},
      {"every days for", 14}, {"every days for 0", 15}, {"every days for 1", NONE}, {"every days for 500", NONE}, {"every days for 501", 15},
      {"every days until", 16}, {"every days until 9", 17}, {"every days until 10", NONE}, {"every days until 146000", NONE},
      {"every days until 146001", 17}, {"every days until 10 for 1", 20}, {"every days for mo", 15}, {"everydays", 0}, {"every2days", NONE},
      {"every weeks", 11}, {"every weeks mo", 12}, {"every weeks on", 14}, {"every weeks on 1", 15}, {"every weeks on mo", NONE},
      {"every weeks on mofr", 15}, {"every weeks on mo mo mo", NONE}, {"every weeks on mo tu we th fr sa su", NONE}, {"every weeks on mo days", 18},
      {"every weeks on mo last", 18}, {"every months", 12}, {"every months on", 15}, {"every months on 0", 16}, {"every months on 31", NONE},
      {"every months on 32", 16}, {"every months on 1 mo", 18}, {"every months on 031", NONE}, {"every months on last", NONE},
      {"every months on last 5", 21}, {"every months on last mo", NONE}, {"every months on last mo for 3", NONE}, {"every months on first", 21},
      {"every months on second for 3", 23}, {"every months on sixth mo", 16}, {"every months on mo", 16}, {"every months on end 2", 16},
      {"every years on mo", 12}, {"every years", NONE}, {"years", 0}, {"once for 3", NONE}, {"once until 146000 ", NONE},
      {"every days\tfor 3", 10}, {"every day\u00e9", 6}, {"every 2,days", 7}, {"every -2 days", 6}, {"for 3", 0}, {"1", 0}
    };
    for (Object[] t : texts) {
      Calendarhall y = fresh(59);
      type(y, (String) t[0]);
      Object got = ask(() -> y.errorPlace());
      if (!got.equals(t[1])) System.out.println("text: " + t[0]);
      due(t[1], () -> got);
    }
    // The whole room of the text: a rule behind blanks.
    x.clearText();
    for (int k = 0; k < 116; k++) x.type(32);
    x.type(0x6f6e6365L);
    due(NONE, () -> x.errorPlace());
  }

  private static void p60Write() {
    Calendarhall x = fresh(60);
    x.addSeries(0, 20, 600, 30, 0, false);
    due("once", () -> written(x, 0));
    Object[][] rules = {
      {1, 1, 0, 0, 0, 0, "every days"}, {1, 2, 0, 0, 1, 500, "every 2 days for 500"}, {2, 1, 127, 0, 0, 0, "every weeks on mo tu we th fr sa su"},
      {2, 99, 65, 0, 2, 146000, "every 99 weeks on mo su until 146000"}, {3, 1, 0, 1, 0, 0, "every months on 1"}, {3, 1, 0, 31, 0, 0, "every months on 31"},
      {3, 1, 0, -1, 1, 7, "every months on last for 7"}, {3, 3, 0, -2, 0, 0, "every 3 months on end 2"}, {3, 3, 0, -31, 2, 99, "every 3 months on end 31 until 99"},
      {4, 1, 1, 1, 0, 0, "every months on first mo"}, {4, 1, 6, 2, 0, 0, "every months on second tu we"}, {4, 1, 8, 3, 0, 0, "every months on third th"},
      {4, 1, 16, 4, 0, 0, "every months on fourth fr"}, {4, 1, 32, 5, 0, 0, "every months on fifth sa"}, {4, 10, 31, -1, 0, 0, "every 10 months on last mo tu we th fr"},
      {4, 1, 64, -2, 0, 0, "every months on end 2 su"}, {4, 1, 65, -5, 1, 1, "every months on end 5 mo su for 1"}, {5, 1, 0, 0, 0, 0, "every years"},
      {5, 4, 0, 0, 2, 20, "every 4 years until 20"}, {0, 0, 0, 0, 1, 3, "once for 3"}
    };
    for (Object[] r : rules) {
      Calendarhall y = fresh(60);
      y.addSeries(0, 20, 600, 30, 0, false);
      y.setRule(0, (int) r[0], (int) r[1], (int) r[2], (int) r[3]);
      y.setEnd(0, (int) r[4], (int) r[5]);
      due(((String) r[6]).length(), () -> y.write(0));
      due(r[6], () -> written(y, 0));
    }
    due(OUT, () -> x.write(1));
    due(OUT, () -> x.write(-1));
    due((int) 'o', () -> x.writtenAt(0));
    due(0, () -> x.clearText());
  }

  private static void p61WrittenAt() {
    Calendarhall x = fresh(61);
    due(MISSING, () -> x.writtenAt(0));
    x.addSeries(0, 20, 600, 30, 0, false);
    x.setRule(0, 1, 1, 0, 0);
    x.write(0);
    due((int) 'e', () -> x.writtenAt(0));
    due(32, () -> x.writtenAt(5));
    due((int) 's', () -> x.writtenAt(9));
    due(MISSING, () -> x.writtenAt(10));
    due(MISSING, () -> x.writtenAt(-1));
    due(MISSING, () -> x.writtenAt(MOST));
    x.dropSeries(0);
    due((int) 's', () -> x.writtenAt(9));
    x.addSeries(0, 20, 600, 30, 0, false);
    x.write(0);
    due(MISSING, () -> x.writtenAt(4));
  }

  private static void p62BusyShare() {
    Calendarhall x = fresh(62);
    x.addSeries(0, 10, 500, 60, 1, false);
    due(20.0 / 480.0, () -> x.busyShare(0, FIRST, FIRST + DAY));
    due(20.0 / 4800.0, () -> x.busyShare(0, FIRST, FIRST + 20160));
    due(0.0, () -> x.busyShare(0, FIRST, FIRST + 540));
    due(0.0, () -> x.busyShare(1, FIRST, FIRST + DAY));
    due(1.0, () -> x.busyShare(0, FIRST + 540, FIRST + 560));
    due(1.0, () -> x.busyShare(0, FIRST + 530, FIRST + 541));
    due(0.5, () -> x.busyShare(0, FIRST + 559, FIRST + 561));
    due(OUT, () -> x.busyShare(8, 0, 0));
    due(BAD, () -> x.busyShare(0, FIRST, FIRST + 20161));
    due(BAD, () -> x.busyShare(0, FIRST, FIRST));
  }

  private static void p63MeanLength() {
    Calendarhall x = fresh(63);
    due(0.0f, () -> x.meanLength());
    x.addSeries(0, 10, 500, 600, 1, false);
    due(600.0f, () -> x.meanLength());
    x.addSeries(0, 10, 500, 1, 1, false);
    x.addSeries(0, 10, 500, 2, 1, false);
    due(603.0f / 3.0f, () -> x.meanLength());
    x.edit(0, 1, 601 - 1 - 599);
    due(4.0f / 3.0f, () -> x.meanLength());
    x.dropSeries(2);
    due(1.0f, () -> x.meanLength());
  }

  private static void p64Checksum() {
    Calendarhall x = fresh(64);
    due(17L, () -> x.checksum(FIRST, FIRST + DAY));
    x.addSeries(0, 10, 600, 60, 0, false);
    x.addSeries(0, 10, 500, 60, 0, false);
    x.addSeries(0, 10, 600, 60, 0, false);
    long want = 17;
    for (long k : new long[] {14900, 1, 15000, 0, 15000, 2}) want = 31 * want + k;
    long sum = want;
    due(sum, () -> x.checksum(FIRST, FIRST + DAY));
    due(17L, () -> x.checksum(15001, FIRST + DAY));
    // Longs that go round.
    for (int k = 0; k < 3; k++) x.setRule(k, 1, 1, 0, 0);
    long round = 17;
    for (int d = 10; d < 17; d++) for (long k : new long[] {d * DAY + 500, 1, d * DAY + 600, 0, d * DAY + 600, 2}) round = 31 * round + k;
    long last = round;
    due(last, () -> x.checksum(FIRST, FIRST + 10080));
    due(BAD, () -> x.checksum(FIRST, FIRST + 10081));
    due(BAD, () -> x.checksum(FIRST, FIRST));
    due(BAD, () -> x.checksum(FIRST - 1, FIRST));
  }

  private static void p65Errors() {
    Calendarhall x = fresh(65);
    due(0, () -> x.errors());
    int[][] rules = {{0, 0, 0, 0}, {1, 7, 0, 0}, {2, 2, 85, 0}, {3, 1, 0, 31}, {3, 2, 0, -30}, {4, 1, 33, 5}, {4, 3, 127, -5}, {5, 1, 0, 0}};
    for (int[] r : rules) x.setRule(x.addSeries(0, 59, 600, 30, 0, false), r[0], r[1], r[2], r[3]);
    x.setRule(x.addSeries(0, 145900, 600, 30, 0, false), 1, 1, 0, 0);
    x.setZone(0, -720, 120);
    x.setZone(1, 840, 15);
    due(0, () -> x.errors());
    for (int k = 0; k < 9; k++) x.setEnd(k, 1, 3);
    due(0, () -> x.errors());
    for (int k = 0; k < 9; k++) x.setEnd(k, 2, x.seriesAt(k, 1) + 40);
    due(0, () -> x.errors());
  }
}
