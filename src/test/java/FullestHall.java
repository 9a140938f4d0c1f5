import java.util.function.Supplier;

/**
 * Halls as full as the document lets them be: twelve series, each with a date on each day and ten more that
 * are moved to where these are. The rows of the class must hold what calls find there; each answer is
 * compared with Model's.
 */
public final class FullestHall {
  private static final int DAY = 1440;
  private static int wrong = 0;
  private static int checks = 0;

  private final Calendarhall hall = new Calendarhall();
  private final Model model = new Model();
  private int asked = 0;

  public static void main(String[] args) {
    for (int length : new int[] {1, 45, 600}) {
      // The day 85 is the last Sunday of March: in the week behind the day 81 the clock goes forth.
      for (int first : new int[] {81, 100, 145900}) new FullestHall().questions(first, length);
    }
    new FullestHall().longPiece();
    new FullestHall().rings();
    System.out.println("FullestHall: " + checks + " checks, " + wrong + " wrong");
    if (wrong > 0) System.exit(1);
  }

  private static Object answer(Supplier<Object> call) {
    try {
      return call.get();
    } catch (RuntimeException e) {
      return e.getClass().getSimpleName();
    }
  }

  private Object ask(String call, Supplier<Object> real, Supplier<Object> due) {
    Object got = answer(real), want = answer(due);
    checks++;
    asked++;
    if (!got.equals(want)) tell(call + " answered " + got + ", due is " + want);
    return got;
  }

  private static void tell(String what) {
    wrong++;
    System.out.println("FullestHall: " + what);
  }

  /** Twelve series on each day from one day on, with ten days each moved to the third of these days. */
  private void fill(int first, int minute, int length) {
    ask("setZone", () -> hall.setZone(0, 0, 120), () -> model.setZone(0, 0, 120));
    for (int k = 0; k < 12; k++) {
      int n = k;
      ask("addSeries", () -> hall.addSeries(0, first, minute, length, 255, true), () -> model.addSeries(0, first, minute, length, 255, true));
      ask("setRule", () -> hall.setRule(n, 1, 1, 0, 0), () -> model.setRule(n, 1, 1, 0, 0));
      for (int j = 0; j < 10; j++) {
        int day = first + 30 + j, to = minute + 300;
        ask("move", () -> hall.move(n, day, first + 2, to), () -> model.move(n, day, first + 2, to));
      }
    }
  }

  private void questions(int first, int length) {
    fill(first, 180, length);
    int from = model.beginOf(0, first), week = from + 7 * DAY, later = from + 14 * DAY;
    ask("layRooms", () -> hall.layRooms(from, week), () -> model.layRooms(from, week));
    ask("roomsNeeded", () -> hall.roomsNeeded(from, week), () -> model.roomsNeeded(from, week));
    ask("checksum", () -> hall.checksum(from, week), () -> model.checksum(from, week));
    ask("clashes", () -> hall.clashes(0, from, week), () -> model.clashes(0, from, week));
    int all = model.clashes.size();
    for (int k = 0; k <= 20; k++) {
      int clash = all * k / 20, what = k % 4;
      ask("clashAt " + clash, () -> hall.clashAt(clash, what), () -> model.clashAt(clash, what));
      int[] laid = model.laid.get((model.laid.size() - 1) * k / 20);
      ask("roomOf", () -> hall.roomOf(laid[0], laid[1]), () -> model.roomOf(laid[0], laid[1]));
    }
    for (int k = 0; k < 3; k++) {
      int which = k;
      ask("minutesOf", () -> hall.minutesOf(0, from, later, which), () -> model.minutesOf(0, from, later, which));
    }
    ask("busyShare", () -> hall.busyShare(7, from, later), () -> model.busyShare(7, from, later));
    ask("freeNext", () -> hall.freeNext(255, from, later, 600, false), () -> model.freeNext(255, from, later, 600, false));
    ask("freeNext", () -> hall.freeNext(255, from, later, 60, true), () -> model.freeNext(255, from, later, 60, true));
    ask("best", () -> hall.best(255, from, week, 120, false), () -> model.best(255, from, week, 120, false));
    ask("best", () -> hall.best(255, from, week, 600, true), () -> model.best(255, from, week, 600, true));
    ask("datesAt", () -> hall.datesAt(0, from + 2 * DAY + 700), () -> model.datesAt(0, from + 2 * DAY + 700));
    ask("plan", () -> hall.plan(4095, from, week), () -> model.plan(4095, from, week));
    if (asked > 512) tell("more than 512 calls on one hall");
  }

  /**
   * A piece of two weeks that begins in the last minute of dates, so that fifteen of each series are in it
   * and ten that are moved. The last one of all is alone: without it fewer minutes would be busy.
   */
  private void longPiece() {
    fill(81, 180, 600);
    ask("move", () -> hall.move(11, 120, 83, 1300), () -> model.move(11, 120, 83, 1300));
    int from = model.beginOf(0, 81) + 599, to = from + 14 * DAY;
    ask("minutesOf", () -> hall.minutesOf(0, from, to, 0), () -> model.minutesOf(0, from, to, 0));
    ask("freeNext", () -> hall.freeNext(255, from + DAY, to, 500, false), () -> model.freeNext(255, from + DAY, to, 500, false));
  }

  /** All ten reminders and all ten snoozed rings ring in one pass. */
  private void rings() {
    fill(10, 180, 30);
    for (int k = 0; k < 10; k++) {
      int n = k + 2;
      ask("remind", () -> hall.remind(n, 170), () -> model.remind(n, 170));
    }
    pass(200);
    for (int k = 0; k < 11; k++) {
      int ring = k, minutes = k == 3 ? 1 : 600;
      ask("snooze", () -> hall.snooze(ring, minutes), () -> model.snooze(ring, minutes));
    }
    for (int k = 0; k < 2; k++) pass(1440);
    for (int k = 0; k < 30; k++) {
      int ring = k, what = k % 4;
      ask("ringAt", () -> hall.ringAt(ring, what), () -> model.ringAt(ring, what));
    }
    pass(1440);
    ask("rings", () -> hall.rings(), () -> model.rings());
    for (int k = 0; k < 10; k++) {
      int reminder = k;
      ask("nextRing", () -> hall.nextRing(reminder), () -> model.nextRing(reminder));
    }
    if (asked > 512) tell("more than 512 calls on one hall");
  }

  private void pass(int minutes) {
    ask("pass", () -> hall.pass(minutes), () -> model.pass(minutes));
  }
}
