/** The promises 1 to 26, the calls that change a hall: each of their sentences and lines with a test of its own. */
public final class EdgesOfChanges extends Sentences {
  public static void main(String[] args) {
    newObject();
    setZone();
    setSwitch();
    setPerson();
    setRoom();
    addSeries();
    dropSeries();
    setRule();
    setEnd();
    readRule();
    edit();
    leaveOut();
    move();
    bringBack();
    fromHere();
    applyPlan();
    answer();
    counter();
    accept();
    remind();
    forget();
    pass();
    snooze();
    change();
    deliver();
    undo();
    finish("EdgesOfChanges");
  }

  private static final int[] WRONG = {-1, -2, LEAST, MOST};

  /** No such number: the call says so, and changes nothing. */
  private static void noneThere(int first, With call) {
    refused(OUT, () -> full(), x -> call.on(x, first));
    for (int number : WRONG) refused(OUT, () -> full(), x -> call.on(x, number));
  }

  private static void newObject() {
    section("Promise 1");
    of("Creates a hall without series, reminders, rings, changes of devices; zones, people, rooms and the clock as told above.", () -> {
      Calendarhall x = fresh();
      for (int k = 0; k < 12; k++) {
        int number = k;
        due(OUT, () -> x.seriesAt(number, 0));
      }
      for (int k = 0; k < 10; k++) {
        int number = k;
        due(OUT, () -> x.nextRing(number));
      }
      due(0, () -> x.rings());
      due(OUT, () -> x.ringAt(0, 0));
      due(OUT, () -> x.deliver(0, 0));
      due(OUT, () -> x.deliver(1, 0));
      due(NONE, () -> x.shown(0, 0, 0));
      due(NONE, () -> x.shown(1, 11, 3));
      due(true, () -> x.areAlike());
      due(14400, () -> x.now());
      due(0, () -> x.type(0));
      due(MISSING, () -> x.writtenAt(0));
      due(MISSING, () -> x.clashAt(0, 0));
      due(MISSING, () -> x.planAt(0, 0));
      due(MISSING, () -> x.roomOf(0, 10));
      due(0.0f, () -> x.meanLength());
      due(STATE, () -> x.undo());
      // Two halls have nothing to do with one another.
      Calendarhall y = fresh();
      y.addSeries(0, 10, 0, 1, 0, false);
      due(OUT, () -> x.seriesAt(0, 0));
    });
  }

  private static void setZone() {
    section("Promise 2");
    of("Sets the offset and the shift of a zone.", () -> {
      Calendarhall x = fresh();
      x.setZone(1, 840, 120);
      due(FIRST + 840, () -> x.toLocal(1, FIRST));
      due(200 * DAY + 960, () -> x.toLocal(1, 200 * DAY));
      due(FIRST, () -> x.toLocal(0, FIRST));
      due(FIRST, () -> x.toLocal(2, FIRST));
      x.setZone(1, -720, 0);
      due(200 * DAY - 720, () -> x.toLocal(1, 200 * DAY));
    });
    of("- `zone`: 0 to 2", () -> range(0, 2, OUT, () -> full(), (x, zone) -> x.setZone(zone, 0, 0)));
    of("- `offset`: -720 to 840, divisible by 15", () -> {
      range(-720, 840, BAD, () -> full(), (x, offset) -> x.setZone(0, offset, 0));
      for (int offset : new int[] {-735, -719, -14, -1, 1, 14, 16, 839, 855}) refused(BAD, () -> full(), x -> x.setZone(0, offset, 0));
    });
    of("- `shift`: 0 to 120, divisible by 15", () -> {
      range(0, 120, BAD, () -> full(), (x, shift) -> x.setZone(0, 0, shift));
      for (int shift : new int[] {-15, 1, 14, 16, 119, 135}) refused(BAD, () -> full(), x -> x.setZone(0, 0, shift));
    });
    of("Returns the offset that it had.", () -> {
      Calendarhall x = fresh();
      due(0, () -> x.setZone(2, 840, 15));
      due(840, () -> x.setZone(2, -720, 30));
      due(-720, () -> x.setZone(2, -720, 30));
    });
    of("Throws `IndexOutOfBoundsException` see section 9", () -> {
      noneThere(3, (x, zone) -> x.setZone(zone, 0, 0));
      due(OUT, () -> fresh().setZone(3, 841, 121));
    });
    of("Throws `IllegalArgumentException` see section 9", () -> {
      due(BAD, () -> fresh().setZone(0, 841, 0));
      due(BAD, () -> fresh().setZone(0, 0, 121));
      due(BAD, () -> fresh().setZone(0, LEAST, LEAST));
    });
  }

  private static void setSwitch() {
    section("Promise 3");
    of("Sets a switch of a zone.", () -> {
      Calendarhall x = fresh();
      x.setZone(1, 0, 60);
      x.setSwitch(1, true, 5, 1, 0, 7);
      // The 1st of May 2000 is a Monday; the other switch and the other zones stay as they were.
      int forth = day(2000, 5, 1) * DAY + 7, back = day(2000, 10, 29) * DAY + 120;
      due(forth - 1, () -> x.toLocal(1, forth - 1));
      due(forth + 60, () -> x.toLocal(1, forth));
      due(back + 59, () -> x.toLocal(1, back - 1));
      due(back, () -> x.toLocal(1, back));
      due(3, () -> x.setSwitch(0, true, 3, 1, 0, 0));
    });
    of("- `zone`: 0 to 2", () -> range(0, 2, OUT, () -> full(), (x, zone) -> x.setSwitch(zone, true, 5, 1, 0, 0)));
    of("- `isForth`: true for the switch forth, false for the switch back", () -> {
      Calendarhall x = fresh();
      due(3, () -> x.setSwitch(0, true, 4, 1, 0, 0));
      due(10, () -> x.setSwitch(0, false, 11, 1, 0, 0));
      due(4, () -> x.setSwitch(0, true, 5, 1, 0, 0));
      due(11, () -> x.setSwitch(0, false, 9, 1, 0, 0));
    });
    of("- `month`: 1 to 12, another one than that of the other switch", () -> {
      range(1, 12, BAD, () -> full(), (x, month) -> x.setSwitch(0, true, month, 1, 0, 0));
      range(1, 12, BAD, () -> full(), (x, month) -> x.setSwitch(0, false, month, 1, 0, 0));
      refused(BAD, () -> full(), x -> x.setSwitch(0, true, 10, 5, 6, 120));
      refused(BAD, () -> full(), x -> x.setSwitch(0, false, 3, 5, 6, 120));
      Calendarhall x = fresh();
      taken(() -> x.setSwitch(0, true, 3, 1, 1, 1));
      taken(() -> x.setSwitch(0, false, 10, 1, 1, 1));
      taken(() -> x.setSwitch(0, true, 9, 1, 1, 1));
      due(BAD, () -> x.setSwitch(0, false, 9, 1, 1, 1));
      taken(() -> x.setSwitch(0, false, 3, 1, 1, 1));
    });
    of("- `place`: 1 to 5", () -> range(1, 5, BAD, () -> full(), (x, place) -> x.setSwitch(0, true, 5, place, 0, 0)));
    of("- `weekday`: 0 to 6", () -> range(0, 6, BAD, () -> full(), (x, weekday) -> x.setSwitch(0, true, 5, 1, weekday, 0)));
    of("- `minute`: 0 to 1439", () -> range(0, 1439, BAD, () -> full(), (x, minute) -> x.setSwitch(0, true, 5, 1, 0, minute)));
    of("Returns the month that it had.", () -> {
      Calendarhall x = fresh();
      due(3, () -> x.setSwitch(2, true, 12, 1, 0, 0));
      due(12, () -> x.setSwitch(2, true, 12, 1, 0, 0));
      due(10, () -> x.setSwitch(2, false, 1, 1, 0, 0));
      due(1, () -> x.setSwitch(2, false, 2, 1, 0, 0));
    });
    of("Throws `IndexOutOfBoundsException` see section 9", () -> {
      noneThere(3, (x, zone) -> x.setSwitch(zone, false, 5, 1, 0, 0));
      due(OUT, () -> fresh().setSwitch(3, true, 10, 0, -1, 1440));
    });
    of("Throws `IllegalArgumentException` see section 9", () -> {
      due(BAD, () -> fresh().setSwitch(0, true, 13, 1, 0, 0));
      due(BAD, () -> fresh().setSwitch(0, true, 5, 6, 0, 0));
      due(BAD, () -> fresh().setSwitch(0, true, 5, 1, 7, 0));
      due(BAD, () -> fresh().setSwitch(0, true, 5, 1, 0, 1440));
    });
  }

  private static void setPerson() {
    section("Promise 4");
    of("Sets the zone and the work hours of a person.", () -> {
      Calendarhall x = fresh();
      x.setZone(2, 60, 0);
      x.setPerson(3, 2, 4, 100, 102);
      // The day 11 is a Wednesday.
      due(2, () -> x.minutesOf(3, FIRST, FIRST + 7 * DAY, 1));
      due(FIRST + DAY + 40, () -> x.freeNext(8, FIRST, FIRST + 7 * DAY, 2, true));
      due(480, () -> x.minutesOf(2, FIRST, FIRST + DAY, 1));
      due(480, () -> x.minutesOf(4, FIRST, FIRST + DAY, 1));
    });
    of("- `person`: 0 to 7", () -> range(0, 7, OUT, () -> full(), (x, person) -> x.setPerson(person, 0, 1, 0, 1)));
    of("- `zone`: 0 to 2", () -> range(0, 2, OUT, () -> full(), (x, zone) -> x.setPerson(0, zone, 1, 0, 1)));
    of("- `days`: a set of weekdays, 0 to 127", () -> {
      range(0, 127, BAD, () -> full(), (x, days) -> x.setPerson(0, 0, days, 0, 1));
      Calendarhall x = fresh();
      for (int k = 0; k < 7; k++) {
        // The day 16 is a Monday.
        int at = (16 + k) * DAY;
        x.setPerson(0, 0, 1 << k, 0, 1440);
        due(at, () -> x.freeNext(1, at - 6 * DAY, at + DAY, 1, true));
        due(1440, () -> x.minutesOf(0, at, at + DAY, 1));
        due(1440, () -> x.minutesOf(0, at - DAY, at + 6 * DAY, 1));
      }
      x.setPerson(0, 0, 127, 0, 1440);
      due(20160, () -> x.minutesOf(0, FIRST, FIRST + 20160, 1));
      x.setPerson(0, 0, 0, 0, 1440);
      due(0, () -> x.minutesOf(0, FIRST, FIRST + 20160, 1));
    });
    of("- `from`: 0 to 1439", () -> range(0, 1439, BAD, () -> full(), (x, from) -> x.setPerson(0, 0, 1, from, 1440)));
    of("- `to`: from + 1 to 1440", () -> {
      range(1, 1440, BAD, () -> full(), (x, to) -> x.setPerson(0, 0, 1, 0, to));
      range(601, 1440, BAD, () -> full(), (x, to) -> x.setPerson(0, 0, 1, 600, to));
      range(1440, 1440, BAD, () -> full(), (x, to) -> x.setPerson(0, 0, 1, 1439, to));
      due(BAD, () -> fresh().setPerson(0, 0, 1, MOST, LEAST));
    });
    of("Returns the zone that the person had.", () -> {
      Calendarhall x = fresh();
      due(0, () -> x.setPerson(7, 2, 1, 0, 1));
      due(2, () -> x.setPerson(7, 1, 1, 0, 1));
      due(1, () -> x.setPerson(7, 1, 1, 0, 1));
      due(0, () -> x.setPerson(6, 1, 1, 0, 1));
    });
    of("Throws `IndexOutOfBoundsException` if there is no such person or zone", () -> {
      noneThere(8, (x, person) -> x.setPerson(person, 0, 1, 0, 1));
      noneThere(3, (x, zone) -> x.setPerson(0, zone, 1, 0, 1));
      due(OUT, () -> fresh().setPerson(8, 0, 128, 5, 5));
      due(OUT, () -> fresh().setPerson(0, 3, 128, 5, 5));
    });
    of("Throws `IllegalArgumentException` see section 9", () -> {
      due(BAD, () -> fresh().setPerson(0, 0, 128, 0, 1));
      due(BAD, () -> fresh().setPerson(0, 0, 1, -1, 1));
      due(BAD, () -> fresh().setPerson(0, 0, 1, 0, 0));
    });
  }

  private static void setRoom() {
    section("Promise 5");
    of("Sets the building of a room.", () -> {
      Calendarhall x = fresh();
      x.setRoom(1, 9);
      due(0, () -> x.setRoom(0, 5));
      due(9, () -> x.setRoom(1, 5));
      due(2, () -> x.setRoom(2, 5));
      due(3, () -> x.setRoom(3, 5));
    });
    of("- `room`: 0 to 3", () -> range(0, 3, OUT, () -> full(), (x, room) -> x.setRoom(room, 5)));
    of("- `building`: 0 to 9", () -> range(0, 9, BAD, () -> full(), (x, building) -> x.setRoom(0, building)));
    of("Returns the building in which it was.", () -> {
      Calendarhall x = fresh();
      due(3, () -> x.setRoom(3, 0));
      due(0, () -> x.setRoom(3, 9));
      due(9, () -> x.setRoom(3, 9));
    });
    of("Throws `IndexOutOfBoundsException` see section 9", () -> {
      noneThere(4, (x, room) -> x.setRoom(room, 0));
      due(OUT, () -> fresh().setRoom(4, 10));
    });
    of("Throws `IllegalArgumentException` see section 9", () -> {
      due(BAD, () -> fresh().setRoom(3, 10));
      due(BAD, () -> fresh().setRoom(3, -1));
    });
  }

  private static void addSeries() {
    section("Promise 6");
    of("Adds a series, with the rule ONCE, without an end.", () -> {
      // Also in the place of one that had another rule, an end, exceptions and answers.
      Calendarhall x = full();
      x.setEnd(1, 1, 5);
      x.leaveOut(1, 11);
      x.answer(1, 0, 2);
      x.counter(1, 1, 8);
      x.dropSeries(1);
      due(1, () -> x.addSeries(2, 77, 1439, 600, 255, false));
      int[] want = {2, 77, 1439, 600, 255, 0, 0, 0, 0, 0, 0, 0, 0};
      for (int k = 0; k < 13; k++) {
        int what = k;
        due(want[k], () -> x.seriesAt(1, what));
      }
      for (int k = 0; k < 8; k++) {
        int person = k;
        due(0, () -> x.answerOf(1, person));
        due(NONE, () -> x.counterOf(1, person));
      }
      due(1, () -> x.countDays(1, 10, 146000));
    });
    of("- `zone`: 0 to 2", () -> range(0, 2, OUT, () -> full(), (x, zone) -> x.addSeries(zone, 10, 0, 1, 0, false)));
    of("- `day`: its first day, 10 to 146000", () -> {
      range(10, 146000, BAD, () -> full(), (x, day) -> x.addSeries(0, day, 0, 1, 0, false));
      for (int day : new int[] {10, 146000}) {
        Calendarhall x = fresh();
        x.addSeries(0, day, 0, 1, 0, false);
        due(day, () -> x.seriesAt(0, 1));
        due(day * DAY, () -> x.begin(0, day));
      }
    });
    of("- `minute`: 0 to 1439", () -> range(0, 1439, BAD, () -> full(), (x, minute) -> x.addSeries(0, 10, minute, 1, 0, false)));
    of("- `length`: 1 to 600", () -> range(1, 600, BAD, () -> full(), (x, length) -> x.addSeries(0, 10, 0, length, 0, false)));
    of("- `people`: the people, as bits, 0 to 255", () -> {
      range(0, 255, BAD, () -> full(), (x, people) -> x.addSeries(0, 10, 0, 1, people, false));
      for (int people : new int[] {0, 1, 128, 255}) for (int k = 0; k < 8; k++) {
        int person = k;
        Calendarhall x = fresh();
        x.addSeries(0, 10, 0, 1, people, false);
        due((people >> k & 1) == 1 ? 0 : NONE, () -> x.answerOf(0, person));
      }
    });
    of("- `needsRoom`: whether it needs a room", () -> {
      Calendarhall x = fresh();
      x.addSeries(0, 10, 0, 1, 0, true);
      x.addSeries(0, 10, 0, 1, 0, false);
      due(1, () -> x.seriesAt(0, 5));
      due(0, () -> x.seriesAt(1, 5));
      due(1, () -> x.roomsNeeded(FIRST, FIRST + 1));
    });
    of("Returns its number.", () -> {
      Calendarhall x = fresh();
      due(0, () -> x.addSeries(0, 10, 0, 1, 0, false));
      due(1, () -> x.addSeries(0, 10, 0, 1, 0, false));
      x.dropSeries(0);
      due(0, () -> x.addSeries(0, 10, 0, 1, 0, false));
      due(2, () -> x.addSeries(0, 10, 0, 1, 0, false));
    });
    of("Throws `IndexOutOfBoundsException` if there is no such zone", () -> {
      noneThere(3, (x, zone) -> x.addSeries(zone, 10, 0, 1, 0, false));
      due(OUT, () -> fresh().addSeries(3, 9, -1, 0, 256, false));
      due(OUT, () -> twelve().addSeries(-1, 10, 0, 1, 0, false));
    });
    of("Throws `IllegalArgumentException` see section 9", () -> {
      due(BAD, () -> fresh().addSeries(0, 9, 0, 1, 0, false));
      due(BAD, () -> fresh().addSeries(0, 10, 1440, 1, 0, false));
      due(BAD, () -> fresh().addSeries(0, 10, 0, 0, 0, false));
      due(BAD, () -> fresh().addSeries(0, 10, 0, 1, 256, false));
      due(BAD, () -> twelve().addSeries(0, 146001, 0, 1, 0, false));
    });
    of("Throws `IllegalStateException` if there are 12 series", () -> {
      refused(STATE, () -> twelve(), x -> x.addSeries(0, 10, 0, 1, 0, false));
      Calendarhall x = twelve();
      x.dropSeries(11);
      due(11, () -> x.addSeries(0, 10, 0, 1, 0, false));
      due(STATE, () -> x.addSeries(0, 10, 0, 1, 0, false));
    });
  }

  /** Twelve series, the first one on each day. */
  private static Calendarhall twelve() {
    Calendarhall x = daily();
    for (int k = 1; k < 12; k++) x.addSeries(0, 10, 0, 1, 0, false);
    return x;
  }

  private static void dropSeries() {
    section("Promise 7");
    of("Drops a series, with its answers and counter-proposals.", () -> {
      Calendarhall x = full();
      x.dropSeries(0);
      due(OUT, () -> x.seriesAt(0, 0));
      due(OUT, () -> x.answerOf(0, 2));
      due(OUT, () -> x.dropSeries(0));
      due(0, () -> x.datesAt(0, FIRST + 4 * DAY + 20));
      x.addSeries(0, 10, 10, 30, 7, true);
      due(0, () -> x.answerOf(0, 2));
      due(NONE, () -> x.counterOf(0, 1));
      due(MISSING, () -> x.accept(0, 1));
    });
    of("Its reminders stay; they do not ring then, until there is a series with this number.", () -> {
      Calendarhall x = daily();
      x.remind(0, 0);
      x.dropSeries(0);
      due(NONE, () -> x.nextRing(0));
      due(0, () -> x.pass(1000));
      due(1, () -> x.remind(x.addSeries(1, 10, 1001, 1, 0, false), 0));
      due(15401, () -> x.nextRing(0));
      due(2, () -> x.pass(1));
      due(1, () -> x.forget(1));
      due(0, () -> x.forget(0));
    });
    of("- `series`: its number", () -> range(0, 11, OUT, () -> twelve(), (x, series) -> x.dropSeries(series)));
    of("Returns how many series are left.", () -> {
      Calendarhall x = twelve();
      for (int k = 0; k < 12; k++) {
        int number = 11 - k, left = 11 - k;
        due(left, () -> x.dropSeries(number));
      }
    });
    of("Throws `IndexOutOfBoundsException` see section 9", () -> {
      noneThere(3, (x, series) -> x.dropSeries(series));
      due(OUT, () -> fresh().dropSeries(0));
      due(OUT, () -> twelve().dropSeries(12));
    });
  }

  private static void setRule() {
    section("Promise 8");
    of("Sets the rule of a series; its exceptions go.", () -> {
      Calendarhall x = full();
      due(2, () -> x.seriesAt(0, 12));
      x.setEnd(1, 1, 9);
      x.leaveOut(1, 11);
      due(1, () -> x.setRule(0, 1, 1, 0, 0));
      due(0, () -> x.seriesAt(0, 12));
      due(14 * DAY + 10, () -> x.begin(0, 14));
      due(MISSING, () -> x.bringBack(0, 14));
      // Of this series alone; and its end stays.
      due(1, () -> x.seriesAt(1, 12));
      x.setRule(1, 5, 2, 0, 0);
      due(1, () -> x.seriesAt(1, 10));
      due(9, () -> x.seriesAt(1, 11));
      due(9, () -> x.countDays(1, 10, 146000));
    });
    of("What the kind does not use must be 0.", () -> {
      int[][] sound = {{0, 0, 0, 0}, {1, 1, 0, 0}, {2, 1, 1, 0}, {3, 1, 0, 1}, {4, 1, 1, 1}, {5, 1, 0, 0}};
      boolean[][] uses = {{false, false, false}, {true, false, false}, {true, true, false}, {true, false, true}, {true, true, true}, {true, false, false}};
      for (int k = 0; k < 6; k++) {
        int[] s = sound[k];
        taken(() -> full().setRule(0, s[0], s[1], s[2], s[3]));
        for (int part = 1; part <= 3; part++) {
          if (uses[k][part - 1]) continue;
          for (int other : new int[] {1, -1, MOST, LEAST}) {
            int[] bad = s.clone();
            bad[part] = other;
            refused(BAD, () -> full(), x -> x.setRule(0, bad[0], bad[1], bad[2], bad[3]));
          }
        }
      }
    });
    of("- `series`: its number", () -> range(0, 11, OUT, () -> twelve(), (x, series) -> x.setRule(series, 1, 1, 0, 0)));
    of("- `kind`: ONCE to YEARS", () -> {
      taken(() -> full().setRule(0, Calendarhall.ONCE, 0, 0, 0));
      taken(() -> full().setRule(0, Calendarhall.YEARS, 1, 0, 0));
      for (int kind : new int[] {-1, 6, LEAST, MOST}) {
        refused(BAD, () -> full(), x -> x.setRule(0, kind, 0, 0, 0));
        refused(BAD, () -> full(), x -> x.setRule(0, kind, 1, 0, 0));
        refused(BAD, () -> full(), x -> x.setRule(0, kind, 1, 1, 1));
      }
    });
    of("- `step`: 1 to 99, of all kinds but ONCE", () -> {
      int[][] rest = {{1, 0, 0}, {2, 1, 0}, {3, 0, 1}, {4, 1, 1}, {5, 0, 0}};
      for (int[] r : rest) range(1, 99, BAD, () -> full(), (x, step) -> x.setRule(0, r[0], step, r[1], r[2]));
      range(0, 0, BAD, () -> full(), (x, step) -> x.setRule(0, 0, step, 0, 0));
    });
    of("- `days`: a set of weekdays, 1 to 127, of WEEKS and SETS", () -> {
      range(1, 127, BAD, () -> full(), (x, days) -> x.setRule(0, 2, 1, days, 0));
      range(1, 127, BAD, () -> full(), (x, days) -> x.setRule(0, 4, 1, days, 1));
    });
    of("- `place`: of MONTHS 1 to 31 or -31 to -1, of SETS 1 to 5 or -5 to -1", () -> {
      for (int place : new int[] {1, 31, -31, -1}) taken(() -> full().setRule(0, 3, 1, 0, place));
      for (int place : new int[] {0, 32, -32, MOST, LEAST, LEAST + 1}) refused(BAD, () -> full(), x -> x.setRule(0, 3, 1, 0, place));
      for (int place : new int[] {1, 5, -5, -1}) taken(() -> full().setRule(0, 4, 1, 1, place));
      for (int place : new int[] {0, 6, -6, 31, -31, MOST, LEAST, LEAST + 1}) refused(BAD, () -> full(), x -> x.setRule(0, 4, 1, 1, place));
    });
    of("Returns the kind that it had.", () -> {
      Calendarhall x = fresh();
      x.addSeries(0, 10, 0, 1, 0, false);
      due(0, () -> x.setRule(0, 5, 1, 0, 0));
      due(5, () -> x.setRule(0, 4, 1, 1, 1));
      due(4, () -> x.setRule(0, 3, 1, 0, 1));
      due(3, () -> x.setRule(0, 2, 1, 1, 0));
      due(2, () -> x.setRule(0, 1, 1, 0, 0));
      due(1, () -> x.setRule(0, 0, 0, 0, 0));
      due(0, () -> x.setRule(0, 0, 0, 0, 0));
    });
    of("Throws `IndexOutOfBoundsException` see section 9", () -> {
      noneThere(3, (x, series) -> x.setRule(series, 0, 0, 0, 0));
      due(OUT, () -> fresh().setRule(0, 9, 9, 9, 9));
    });
    of("Throws `IllegalArgumentException` see section 9", () -> {
      due(BAD, () -> daily().setRule(0, 6, 1, 0, 0));
      due(BAD, () -> daily().setRule(0, 1, 100, 0, 0));
      due(BAD, () -> daily().setRule(0, 2, 1, 128, 0));
      due(BAD, () -> daily().setRule(0, 3, 1, 0, 32));
      due(BAD, () -> daily().setRule(0, 4, 1, 1, -6));
    });
  }

  private static void setEnd() {
    section("Promise 9");
    of("Sets the end of a series; its exceptions go.", () -> {
      Calendarhall x = full();
      due(2, () -> x.seriesAt(0, 12));
      x.leaveOut(1, 11);
      x.setEnd(0, 1, 100);
      due(0, () -> x.seriesAt(0, 12));
      due(1, () -> x.seriesAt(1, 12));
      due(13 * DAY + 10, () -> x.begin(0, 13));
      due(100, () -> x.countDays(0, 10, 146000));
      due(1, () -> x.seriesAt(0, 6));
      // Also if the end stays what it was.
      x.leaveOut(0, 12);
      due(1, () -> x.setEnd(0, 1, 100));
      due(0, () -> x.seriesAt(0, 12));
    });
    of("- `series`: its number", () -> range(0, 11, OUT, () -> twelve(), (x, series) -> x.setEnd(series, 0, 0)));
    of("- `how`: 0 without an end, 1 by a count, 2 by a last day", () -> {
      Calendarhall x = daily();
      x.setEnd(0, 1, 20);
      due(29, () -> x.dayOfSeries(0, 19));
      due(NONE, () -> x.nextDay(0, 30));
      x.setEnd(0, 2, 20);
      due(20, () -> x.nextDay(0, 20));
      due(NONE, () -> x.nextDay(0, 21));
      x.setEnd(0, 0, 0);
      due(146000, () -> x.nextDay(0, 146000));
      for (int how : new int[] {-1, 3, LEAST, MOST}) for (int number : new int[] {0, 1, 20}) refused(BAD, () -> full(), h -> h.setEnd(0, how, number));
    });
    of("- `number`: 0; the count, 1 to 500; or the last day, not before the first day, at most 146000", () -> {
      range(0, 0, BAD, () -> full(), (x, number) -> x.setEnd(0, 0, number));
      range(1, 500, BAD, () -> full(), (x, number) -> x.setEnd(0, 1, number));
      range(10, 146000, BAD, () -> full(), (x, number) -> x.setEnd(0, 2, number));
      range(12, 146000, BAD, () -> full(), (x, number) -> x.setEnd(2, 2, number));
      Calendarhall x = fresh();
      x.addSeries(0, 146000, 0, 1, 0, false);
      range(146000, 146000, BAD, () -> fresh146000(), (h, number) -> h.setEnd(0, 2, number));
      due(0, () -> x.setEnd(0, 2, 146000));
      // Not before the first day, also if the rule does not hold of it.
      Calendarhall y = fresh();
      y.addSeries(0, 20, 0, 1, 0, false);
      y.setRule(0, 2, 1, 1, 0);
      due(BAD, () -> y.setEnd(0, 2, 19));
      due(0, () -> y.setEnd(0, 2, 20));
      due(0, () -> y.countDays(0, 10, 146000));
    });
    of("Returns how it ended before (0 to 2).", () -> {
      Calendarhall x = daily();
      due(0, () -> x.setEnd(0, 1, 1));
      due(1, () -> x.setEnd(0, 2, 10));
      due(2, () -> x.setEnd(0, 2, 10));
      due(2, () -> x.setEnd(0, 0, 0));
      due(0, () -> x.setEnd(0, 0, 0));
    });
    of("Throws `IndexOutOfBoundsException` see section 9", () -> {
      noneThere(3, (x, series) -> x.setEnd(series, 0, 0));
      due(OUT, () -> fresh().setEnd(0, 3, -1));
    });
    of("Throws `IllegalArgumentException` see section 9", () -> {
      due(BAD, () -> daily().setEnd(0, 3, 0));
      due(BAD, () -> daily().setEnd(0, 0, 1));
      due(BAD, () -> daily().setEnd(0, 1, 0));
      due(BAD, () -> daily().setEnd(0, 2, 9));
    });
  }

  private static Calendarhall fresh146000() {
    Calendarhall x = fresh();
    x.addSeries(0, 146000, 0, 1, 0, false);
    return x;
  }

  private static Calendarhall reading(String text) {
    Calendarhall x = daily();
    type(x, text);
    return x;
  }

  private static void readRule() {
    section("Promise 10");
    of("Sets the rule and the end of a series as the text tells; without an end there, it has none.", () -> {
      Calendarhall x = reading("every 3 weeks on tu until 99");
      due(2, () -> x.readRule(0));
      int[] want = {2, 3, 2, 0, 2, 99, 0};
      for (int k = 0; k < 7; k++) {
        int what = k + 6;
        due(want[k], () -> x.seriesAt(0, what));
      }
      due(5, () -> x.countDays(0, 10, 146000));
      x.clearText();
      type(x, "once");
      due(0, () -> x.readRule(0));
      for (int k = 6; k < 13; k++) {
        int what = k;
        due(0, () -> x.seriesAt(0, what));
      }
    });
    of("Its exceptions go, the text stays.", () -> {
      Calendarhall x = full();
      due(2, () -> x.seriesAt(0, 12));
      x.leaveOut(1, 11);
      x.readRule(0);
      due(0, () -> x.seriesAt(0, 12));
      due(1, () -> x.seriesAt(1, 12));
      due(1, () -> x.readRule(1));
      due(0, () -> x.seriesAt(1, 12));
      due(12, () -> x.clearText());
    });
    of("- `series`: its number", () -> {
      range(0, 11, OUT, () -> {
        Calendarhall x = twelve();
        type(x, "once");
        return x;
      }, (x, series) -> x.readRule(series));
    });
    of("Returns the kind of the rule.", () -> {
      String[] texts = {"once", "every days", "every weeks on mo", "every months on 1", "every months on first mo", "every years"};
      for (int k = 0; k < 6; k++) {
        int kind = k;
        due(kind, () -> reading(texts[kind]).readRule(0));
      }
      due(3, () -> reading("every months on last").readRule(0));
      due(4, () -> reading("every months on last mo").readRule(0));
    });
    of("Throws `IndexOutOfBoundsException` see section 9", () -> {
      noneThere(3, (x, series) -> x.readRule(series));
      due(OUT, () -> reading("no rule").readRule(1));
    });
    of("Throws `IllegalArgumentException` if the text has an error (for the last day by this series)", () -> {
      for (String text : new String[] {"", "never", "every", "once for 0", "once until 9", "once until 146001", "once!"}) refused(BAD, () -> reading(text), x -> x.readRule(0));
      // A last day that is before the first day of the one series, and not before that of the other one.
      Calendarhall x = reading("every days until 99");
      x.addSeries(0, 99, 0, 1, 0, false);
      x.addSeries(0, 100, 0, 1, 0, false);
      due(NONE, () -> x.errorPlace());
      due(1, () -> x.readRule(1));
      due(1, () -> x.countDays(1, 10, 146000));
      due(BAD, () -> x.readRule(2));
      due(0, () -> x.seriesAt(2, 6));
      due(1, () -> x.readRule(0));
    });
  }

  private static void edit() {
    section("Promise 11");
    of("Edits a series.", () -> {
      Calendarhall x = full();
      x.edit(0, 0, 100);
      due(FIRST + 100, () -> x.begin(0, 10));
      // A date that is moved stays where it is, and the exceptions stay.
      due(20 * DAY + 600, () -> x.begin(0, 13));
      due(NONE, () -> x.begin(0, 14));
      due(2, () -> x.seriesAt(0, 12));
      due(70, () -> x.seriesAt(1, 2));
      x.edit(0, 1, 600);
      due(1, () -> x.datesAt(0, 20 * DAY + 1199));
      due(0, () -> x.datesAt(0, 20 * DAY + 1200));
    });
    of("- `series`: its number", () -> range(0, 11, OUT, () -> twelve(), (x, series) -> x.edit(series, 0, 0)));
    of("- `field`: 0 its minute of the day, 1 its length, 2 its people, 3 whether it needs a room (1, 0)", () -> {
      range(0, 3, BAD, () -> full(), (x, field) -> x.edit(0, field, 1));
      for (int k = 0; k < 4; k++) {
        int field = k;
        Calendarhall x = fresh();
        x.addSeries(0, 10, 600, 30, 7, false);
        x.edit(0, field, 1);
        int[] want = {600, 30, 7, 0};
        want[field] = 1;
        for (int w = 0; w < 4; w++) {
          int what = w;
          due(want[w], () -> x.seriesAt(0, what + 2));
        }
      }
    });
    of("- `value`: as for addSeries(); answers and counter-proposals of people who are in it no more go", () -> {
      range(0, 1439, BAD, () -> full(), (x, value) -> x.edit(0, 0, value));
      range(1, 600, BAD, () -> full(), (x, value) -> x.edit(0, 1, value));
      range(0, 255, BAD, () -> full(), (x, value) -> x.edit(0, 2, value));
      range(0, 1, BAD, () -> full(), (x, value) -> x.edit(0, 3, value));
      Calendarhall x = full();
      x.answer(0, 0, 1);
      x.counter(0, 0, 5);
      x.answer(1, 1, 2);
      // The person 1, with a counter-proposal, and the person 2, with an answer, go and come back.
      x.edit(0, 2, 1);
      due(NONE, () -> x.answerOf(0, 2));
      due(NONE, () -> x.counterOf(0, 1));
      x.edit(0, 2, 255);
      due(0, () -> x.answerOf(0, 2));
      due(NONE, () -> x.counterOf(0, 1));
      due(1, () -> x.answerOf(0, 0));
      due(5, () -> x.counterOf(0, 0));
      due(2, () -> x.answerOf(1, 1));
      due(1, () -> x.counter(0, 0, 6));
    });
    of("Returns what it was.", () -> {
      Calendarhall x = fresh();
      x.addSeries(0, 10, 1439, 600, 255, true);
      due(1439, () -> x.edit(0, 0, 0));
      due(0, () -> x.edit(0, 0, 0));
      due(600, () -> x.edit(0, 1, 1));
      due(1, () -> x.edit(0, 1, 1));
      due(255, () -> x.edit(0, 2, 0));
      due(0, () -> x.edit(0, 2, 128));
      due(1, () -> x.edit(0, 3, 0));
      due(0, () -> x.edit(0, 3, 1));
    });
    of("Throws `IndexOutOfBoundsException` see section 9", () -> {
      noneThere(3, (x, series) -> x.edit(series, 0, 0));
      due(OUT, () -> fresh().edit(0, 4, -1));
    });
    of("Throws `IllegalArgumentException` see section 9", () -> {
      due(BAD, () -> daily().edit(0, 4, 0));
      due(BAD, () -> daily().edit(0, 0, 1440));
      due(BAD, () -> daily().edit(0, 1, 0));
      due(BAD, () -> daily().edit(0, 2, -1));
      due(BAD, () -> daily().edit(0, 3, 2));
    });
  }

  /** The series 0 of a full hall: daily, with ten exceptions (the days 13 to 22). */
  private static Calendarhall tenExceptions() {
    Calendarhall x = daily();
    for (int k = 13; k < 23; k++) {
      if (k % 2 == 0) x.leaveOut(0, k);
      else x.move(0, k, k, 0);
    }
    return x;
  }

  /** Each second day from the day 20 to the day 40. */
  private static Calendarhall eachSecond() {
    Calendarhall x = fresh();
    x.addSeries(0, 20, 600, 30, 1, false);
    x.setRule(0, 1, 2, 0, 0);
    x.setEnd(0, 2, 41);
    return x;
  }

  /** A day that is one of those of the series, for each edge; others are none. */
  private static void oneOfItsDays(With call) {
    for (int day : new int[] {20, 22, 40}) taken(() -> call.on(eachSecond(), day));
    for (int day : new int[] {21, 18, 19, 41, 42, 9, 0, -1, 146000, 146001, LEAST, MOST}) refused(MISSING, () -> eachSecond(), x -> call.on(x, day));
  }

  private static void leaveOut() {
    section("Promise 12");
    of("Leaves a day of a series out; if it was moved, it is not any more.", () -> {
      Calendarhall x = daily();
      x.leaveOut(0, 11);
      due(NONE, () -> x.begin(0, 11));
      due(0, () -> x.datesAt(0, 11 * DAY + 600));
      due(11, () -> x.nextDay(0, 11));
      x.move(0, 12, 30, 5);
      x.leaveOut(0, 12);
      due(NONE, () -> x.begin(0, 12));
      due(0, () -> x.datesAt(0, 30 * DAY + 5));
      x.bringBack(0, 12);
      due(12 * DAY + 600, () -> x.begin(0, 12));
    });
    of("- `series`: its number", () -> range(0, 11, OUT, () -> twelve(), (x, series) -> x.leaveOut(series, 10)));
    of("- `day`: one of its days", () -> oneOfItsDays((x, day) -> x.leaveOut(0, day)));
    of("Returns how many exceptions the series has then.", () -> {
      Calendarhall x = daily();
      due(1, () -> x.leaveOut(0, 20));
      due(1, () -> x.leaveOut(0, 20));
      x.move(0, 30, 31, 0);
      due(2, () -> x.leaveOut(0, 30));
      for (int k = 3; k <= 10; k++) {
        int count = k;
        due(count, () -> x.leaveOut(0, 40 + count));
      }
    });
    of("Throws `IndexOutOfBoundsException` see section 9", () -> {
      noneThere(3, (x, series) -> x.leaveOut(series, 12));
      due(OUT, () -> tenExceptions().leaveOut(1, 9));
    });
    of("Throws `NoSuchElementException` if day is none of its days", () -> {
      refused(MISSING, () -> eachSecond(), x -> x.leaveOut(0, 21));
      // By the count, the rule that the first day does not fulfil, and the last day of all.
      Calendarhall x = daily();
      x.setEnd(0, 1, 3);
      due(1, () -> x.leaveOut(0, 12));
      due(MISSING, () -> x.leaveOut(0, 13));
      x.setRule(0, 2, 1, 1, 0);
      due(MISSING, () -> x.leaveOut(0, 10));
      due(1, () -> x.leaveOut(0, 16));
      due(MISSING, () -> x.leaveOut(0, 37));
      due(2, () -> x.leaveOut(0, 30));
      due(MISSING, () -> tenExceptions().leaveOut(0, 9));
    });
    of("Throws `IllegalStateException` if the day has no exception, and there are 10", () -> {
      refused(STATE, () -> tenExceptions(), x -> x.leaveOut(0, 12));
      refused(STATE, () -> tenExceptions(), x -> x.leaveOut(0, 23));
      Calendarhall x = tenExceptions();
      for (int k = 13; k < 23; k++) {
        int day = k;
        due(10, () -> x.leaveOut(0, day));
        due(NONE, () -> x.begin(0, day));
      }
      x.bringBack(0, 13);
      due(10, () -> x.leaveOut(0, 12));
      due(STATE, () -> x.leaveOut(0, 13));
    });
  }

  private static void move() {
    section("Promise 13");
    of("Moves a date of a series; if its day was left out, it is not any more.", () -> {
      Calendarhall x = daily();
      x.leaveOut(0, 11);
      due(30 * DAY + 5, () -> x.move(0, 11, 30, 5));
      due(30 * DAY + 5, () -> x.begin(0, 11));
      due(1, () -> x.datesAt(0, 30 * DAY + 34));
      due(1, () -> x.seriesAt(0, 12));
      due(31 * DAY, () -> x.move(0, 11, 31, 0));
      due(0, () -> x.datesAt(0, 30 * DAY + 5));
      due(1, () -> x.seriesAt(0, 12));
    });
    of("- `series`: its number", () -> range(0, 11, OUT, () -> twelve(), (x, series) -> x.move(series, 10, 10, 0)));
    of("- `day`: one of its days", () -> oneOfItsDays((x, day) -> x.move(0, day, 50, 0)));
    of("- `toDay`: 10 to 146000", () -> {
      range(10, 146000, BAD, () -> full(), (x, day) -> x.move(0, 12, day, 0));
      due(14400, () -> daily().move(0, 12, 10, 0));
      due(210240000, () -> daily().move(0, 12, 146000, 0));
      due(210241439, () -> daily().move(0, 12, 146000, 1439));
    });
    of("- `toMinute`: 0 to 1439", () -> {
      range(0, 1439, BAD, () -> full(), (x, minute) -> x.move(0, 12, 12, minute));
      due(12 * DAY, () -> daily().move(0, 12, 12, 0));
      due(13 * DAY - 1, () -> daily().move(0, 12, 12, 1439));
    });
    of("Returns the common minute at which the date begins then.", () -> {
      Calendarhall x = fresh();
      x.setZone(1, 840, 60);
      x.addSeries(1, 20, 600, 30, 1, false);
      due(10 * DAY - 840, () -> x.move(0, 20, 10, 0));
      // A local minute that none tells, and one that two tell: the 26th of March and the 29th of October 2000.
      due(85 * DAY + 179 - 840, () -> x.move(0, 20, 85, 179));
      due(85 * DAY + 180 - 900, () -> x.move(0, 20, 85, 180));
      due(302 * DAY + 120 - 900, () -> x.move(0, 20, 302, 120));
      due(302 * DAY + 180 - 840, () -> x.move(0, 20, 302, 180));
    });
    of("Throws `IndexOutOfBoundsException` see section 9", () -> {
      noneThere(3, (x, series) -> x.move(series, 12, 12, 0));
      due(OUT, () -> tenExceptions().move(1, 9, 9, -1));
    });
    of("Throws `IllegalArgumentException` see section 9", () -> {
      due(BAD, () -> daily().move(0, 12, 9, 0));
      due(BAD, () -> daily().move(0, 12, 146001, 0));
      due(BAD, () -> daily().move(0, 12, 12, 1440));
      due(BAD, () -> tenExceptions().move(0, 9, 9, 0));
    });
    of("Throws `NoSuchElementException` if day is none of its days", () -> {
      refused(MISSING, () -> eachSecond(), x -> x.move(0, 21, 50, 0));
      due(MISSING, () -> tenExceptions().move(0, 9, 10, 0));
      // Not the day to which a date was moved.
      Calendarhall x = eachSecond();
      x.move(0, 20, 25, 0);
      due(MISSING, () -> x.move(0, 25, 26, 0));
    });
    of("Throws `IllegalStateException` if the day has no exception, and there are 10", () -> {
      refused(STATE, () -> tenExceptions(), x -> x.move(0, 12, 30, 0));
      Calendarhall x = tenExceptions();
      for (int k = 13; k < 23; k++) {
        int day = k;
        due(30 * DAY + day, () -> x.move(0, day, 30, day));
      }
      due(10, () -> x.seriesAt(0, 12));
      due(STATE, () -> x.move(0, 23, 30, 0));
    });
  }

  private static void bringBack() {
    section("Promise 14");
    of("Takes the exception of a day away.", () -> {
      // Whichever of the ten it is, the others stay.
      for (int k = 13; k < 23; k++) {
        int day = k;
        Calendarhall x = tenExceptions();
        x.bringBack(0, day);
        due(day * DAY + 600, () -> x.begin(0, day));
        for (int o = 13; o < 23; o++) {
          int other = o;
          if (o != k) due(o % 2 == 0 ? NONE : o * DAY, () -> x.begin(0, other));
        }
      }
      // It is not found any more where it had been moved to.
      Calendarhall x = daily();
      x.move(0, 12, 10, 700);
      x.bringBack(0, 12);
      due(0, () -> x.countDates(0, 15001, 16440));
      due(11, () -> x.nextDate(0, 15001));
      due(17L, () -> x.checksum(15001, 16440));
      due(0, () -> x.datesAt(0, 15100));
      x.remind(0, 0);
      due(1, () -> x.pass(1440));
    });
    of("- `series`: its number", () -> {
      range(0, 11, OUT, () -> {
        Calendarhall x = twelve();
        for (int k = 0; k < 12; k++) x.leaveOut(k, 10);
        return x;
      }, (x, series) -> x.bringBack(series, 10));
    });
    of("- `day`: a day", () -> {
      for (int day : new int[] {13, 22}) taken(() -> tenExceptions().bringBack(0, day));
      for (int day : new int[] {12, 23, 9, 0, -1, 146000, 146001, LEAST, MOST}) refused(MISSING, () -> tenExceptions(), x -> x.bringBack(0, day));
    });
    of("Returns how many exceptions are left.", () -> {
      Calendarhall x = tenExceptions();
      for (int k = 9; k >= 0; k--) {
        int left = k;
        due(left, () -> x.bringBack(0, 13 + left));
        due(left, () -> x.seriesAt(0, 12));
      }
    });
    of("Throws `IndexOutOfBoundsException` see section 9", () -> {
      noneThere(3, (x, series) -> x.bringBack(series, 14));
      due(OUT, () -> daily().bringBack(1, 9));
    });
    of("Throws `NoSuchElementException` if the day has no exception", () -> {
      refused(MISSING, () -> daily(), x -> x.bringBack(0, 10));
      Calendarhall x = daily();
      x.move(0, 11, 30, 0);
      due(MISSING, () -> x.bringBack(0, 30));
      due(0, () -> x.bringBack(0, 11));
      due(MISSING, () -> x.bringBack(0, 11));
    });
  }

  private static void dueSeries(Calendarhall x, int series, int... want) {
    for (int k = 0; k < want.length; k++) {
      int what = k;
      due(want[k], () -> x.seriesAt(series, what));
    }
  }

  private static void fromHere() {
    section("Promise 15");
    of("Changes the dates of a series from one of its days on", () -> {
      Calendarhall x = full();
      due(3, () -> x.fromHere(0, 14, 77, 600));
      dueSeries(x, 0, 0, 10, 10, 30, 7, 1, 1, 1, 0, 0, 2, 13, 1);
      dueSeries(x, 3, 0, 14, 77, 600, 7, 1, 1, 1, 0, 0, 0, 0, 1);
      // The exception of the day ahead stays, that of the day itself goes over.
      due(20 * DAY + 600, () -> x.begin(0, 13));
      due(MISSING, () -> x.begin(0, 14));
      due(NONE, () -> x.begin(3, 14));
      due(MISSING, () -> x.begin(3, 13));
      due(15 * DAY + 77, () -> x.begin(3, 15));
      for (int series : new int[] {0, 3}) {
        due(3, () -> x.answerOf(series, 2));
        due(0, () -> x.answerOf(series, 1));
        due(300, () -> x.counterOf(series, 1));
        due(NONE, () -> x.counterOf(series, 0));
      }
      // From now on they have nothing to do with one another.
      x.answer(3, 2, 1);
      x.leaveOut(3, 16);
      due(3, () -> x.answerOf(0, 2));
      due(1, () -> x.seriesAt(0, 12));
      due(2, () -> x.seriesAt(3, 12));
    });
    of("(Its first day is this day; it has the same rule, and as its end the same last day, or, by a count, as many days as were left.)", () -> {
      Calendarhall x = eachSecond();
      x.fromHere(0, 40, 0, 1);
      dueSeries(x, 0, 0, 20, 600, 30, 1, 0, 1, 2, 0, 0, 2, 39, 0);
      dueSeries(x, 1, 0, 40, 0, 1, 1, 0, 1, 2, 0, 0, 2, 41, 0);
      due(10, () -> x.countDays(0, 10, 146000));
      due(1, () -> x.countDays(1, 10, 146000));
      Calendarhall y = eachSecond();
      y.setEnd(0, 1, 500);
      y.fromHere(0, 22, 0, 1);
      dueSeries(y, 0, 0, 20, 600, 30, 1, 0, 1, 2, 0, 0, 2, 21, 0);
      dueSeries(y, 1, 0, 22, 0, 1, 1, 0, 1, 2, 0, 0, 1, 499, 0);
      due(1, () -> y.countDays(0, 10, 146000));
      due(499, () -> y.countDays(1, 10, 146000));
      Calendarhall w = daily();
      w.setEnd(0, 1, 5);
      w.fromHere(0, 12, 0, 1);
      due(3, () -> w.seriesAt(1, 11));
      due(14, () -> w.dayOfSeries(1, 2));
      // Ten exceptions, which all stay, all go over, or go each its own way.
      for (int split : new int[] {12, 13, 14, 18, 22, 23}) {
        Calendarhall t = tenExceptions();
        t.fromHere(0, split, 0, 1);
        int ahead = Math.max(0, Math.min(10, split - 13));
        due(ahead, () -> t.seriesAt(0, 12));
        due(10 - ahead, () -> t.seriesAt(1, 12));
        for (int k = 13; k < 23; k++) {
          int day = k, series = k < split ? 0 : 1;
          due(day % 2 == 0 ? NONE : day * DAY, () -> t.begin(series, day));
          due(MISSING, () -> t.bringBack(1 - series, day));
        }
      }
      // The last one of a count, and of each kind of rule the same days as before.
      int[][] rules = {{1, 7, 0, 0}, {2, 2, 65, 0}, {3, 5, 0, 31}, {3, 1, 0, -29}, {4, 3, 96, -3}, {5, 2, 0, 0}};
      for (int[] r : rules) for (int place : new int[] {1, 3, 6}) {
        Calendarhall z = fresh();
        z.addSeries(2, 59, 0, 1, 0, false);
        z.setRule(0, r[0], r[1], r[2], r[3]);
        z.setEnd(0, 1, 7);
        int[] days = new int[7];
        for (int k = 0; k < 7; k++) days[k] = z.dayOfSeries(0, k);
        due(1, () -> z.fromHere(0, days[place], 0, 1));
        due(7 - place, () -> z.seriesAt(1, 11));
        due(2, () -> z.seriesAt(1, 0));
        for (int k = 0; k < 7; k++) {
          int at = k;
          due(days[at], () -> at < place ? z.dayOfSeries(0, at) : z.dayOfSeries(1, at - place));
        }
        due(MISSING, () -> z.dayOfSeries(0, place));
        due(MISSING, () -> z.dayOfSeries(1, 7 - place));
      }
    });
    of("- `series`: its number", () -> {
      Calendarhall x = twelve();
      x.dropSeries(11);
      due(11, () -> x.fromHere(0, 11, 0, 1));
      due(OUT, () -> x.fromHere(12, 11, 0, 1));
      due(OUT, () -> x.fromHere(-1, 11, 0, 1));
    });
    of("- `day`: one of its days, but not its first one", () -> {
      for (int day : new int[] {22, 40}) taken(() -> eachSecond().fromHere(0, day, 0, 1));
      for (int day : new int[] {20, 21, 18, 41, 42, 9, -1, 146001, LEAST, MOST}) refused(MISSING, () -> eachSecond(), x -> x.fromHere(0, day, 0, 1));
    });
    of("- `minute`: the minute of the day of the new series", () -> range(0, 1439, BAD, () -> full(), (x, minute) -> x.fromHere(0, 11, minute, 1)));
    of("- `length`: the length of the new series", () -> range(1, 600, BAD, () -> full(), (x, length) -> x.fromHere(0, 11, 0, length)));
    of("Returns the number of the new series.", () -> {
      due(3, () -> full().fromHere(0, 11, 0, 1));
      Calendarhall x = full();
      x.dropSeries(1);
      due(1, () -> x.fromHere(0, 11, 0, 1));
      due(3, () -> x.fromHere(1, 12, 0, 1));
    });
    of("Throws `IndexOutOfBoundsException` see section 9", () -> {
      noneThere(3, (x, series) -> x.fromHere(series, 11, 0, 1));
      due(OUT, () -> twelve().fromHere(12, 9, -1, 0));
    });
    of("Throws `IllegalArgumentException` see section 9", () -> {
      due(BAD, () -> daily().fromHere(0, 11, 1440, 1));
      due(BAD, () -> daily().fromHere(0, 11, 0, 0));
      due(BAD, () -> daily().fromHere(0, 11, 0, 601));
      due(BAD, () -> twelve().fromHere(0, 9, -1, 1));
    });
    of("Throws `NoSuchElementException` if day is none of its days, or its first one", () -> {
      refused(MISSING, () -> full(), x -> x.fromHere(0, 10, 0, 1));
      refused(MISSING, () -> full(), x -> x.fromHere(2, 12, 0, 1));
      refused(MISSING, () -> full(), x -> x.fromHere(2, 13, 0, 1));
      due(MISSING, () -> twelve().fromHere(0, 9, 0, 1));
      // The first one of its days, if the rule does not hold of the first day.
      Calendarhall x = fresh();
      x.addSeries(0, 20, 0, 1, 0, false);
      x.setRule(0, 2, 1, 1, 0);
      due(MISSING, () -> x.fromHere(0, 20, 0, 1));
      due(MISSING, () -> x.fromHere(0, 23, 0, 1));
      due(1, () -> x.fromHere(0, 30, 0, 1));
      // The first one also if it is left out; a day that is left out is one of its days.
      Calendarhall y = daily();
      y.leaveOut(0, 10);
      y.leaveOut(0, 11);
      due(MISSING, () -> y.fromHere(0, 10, 0, 1));
      due(1, () -> y.fromHere(0, 11, 0, 1));
    });
    of("Throws `IllegalStateException` if there are 12 series", () -> {
      refused(STATE, () -> twelve(), x -> x.fromHere(0, 11, 0, 1));
      Calendarhall x = twelve();
      x.dropSeries(5);
      due(5, () -> x.fromHere(0, 11, 0, 1));
      due(STATE, () -> x.fromHere(5, 12, 0, 1));
    });
  }

  private static void applyPlan() {
    section("Promise 16");
    of("Moves the dates as the plan tells", () -> {
      Calendarhall x = twoAtOnce();
      due(60, () -> x.plan(3, FIRST, FIRST + DAY));
      due(1, () -> x.applyPlan());
      due(14940, () -> x.begin(0, 10));
      due(15000, () -> x.begin(1, 10));
      due(1, () -> x.seriesAt(0, 12));
      due(0, () -> x.seriesAt(1, 12));
      // By how they begin now: a date that begins there already is not moved, another one is.
      Calendarhall y = twoAtOnce();
      y.plan(3, FIRST, FIRST + DAY);
      y.edit(0, 0, 540);
      y.edit(1, 0, 0);
      due(1, () -> y.applyPlan());
      due(0, () -> y.seriesAt(0, 12));
      due(15000, () -> y.begin(1, 10));
      // In a zone that is behind the common clock, to a local minute of the day ahead.
      Calendarhall z = fresh();
      z.setZone(1, -720, 0);
      for (int k = 0; k < 2; k++) z.addSeries(1, 10, 0, 60, 1, false);
      due(60, () -> z.plan(3, 15000, 16000));
      due(1, () -> z.applyPlan());
      due(15060, () -> z.begin(0, 10));
      due(15120, () -> z.begin(1, 10));
    });
    of("(if this local minute is told twice, the date begins at the first one)", () -> {
      // The clock goes back at 434940 (the 29th of October 2000, at the minute 120): what 434940 tells is told by 434880 first.
      Calendarhall x = fresh();
      x.setZone(0, 0, 60);
      for (int k = 0; k < 2; k++) x.addSeries(0, 302, 60, 60, 1, false);
      int begin = 302 * DAY;
      due(begin, () -> x.begin(0, 302));
      x.edit(0, 0, 120);
      x.edit(1, 0, 120);
      due(begin + 60, () -> x.begin(1, 302));
      due(60, () -> x.plan(3, begin + 60, begin + 200));
      due(begin + 120, () -> x.planAt(1, 2));
      due(1, () -> x.applyPlan());
      due(begin + 60, () -> x.begin(1, 302));
      due(1, () -> x.seriesAt(1, 12));
    });
    of("The plan is not kept any more.", () -> {
      Calendarhall x = twoAtOnce();
      x.plan(3, FIRST, FIRST + DAY);
      taken(() -> x.planAt(0, 0));
      x.applyPlan();
      due(MISSING, () -> x.planAt(0, 0));
      due(STATE, () -> x.applyPlan());
      // Also if no date was moved.
      x.plan(3, FIRST, FIRST + DAY);
      due(0, () -> x.applyPlan());
      due(STATE, () -> x.applyPlan());
      x.plan(3, FIRST, FIRST + 1);
      due(0, () -> x.applyPlan());
      due(MISSING, () -> x.planAt(0, 0));
    });
    of("Returns how many dates were moved.", () -> {
      Calendarhall x = fresh();
      for (int k = 0; k < 5; k++) x.addSeries(0, 10, 600, 60, 1, false);
      due(360, () -> x.plan(31, FIRST, FIRST + DAY));
      due(4, () -> x.applyPlan());
      due(0, () -> x.plan(31, FIRST, FIRST + DAY));
      due(0, () -> x.applyPlan());
      Calendarhall y = twoAtOnce();
      y.plan(3, FIRST, FIRST + DAY);
      y.edit(1, 0, 5);
      due(2, () -> y.applyPlan());
    });
    of("Throws `IllegalStateException` if no plan is kept, or one of its dates is no date any more, or a series would have more than 10 exceptions", () -> {
      refused(STATE, () -> fresh(), x -> x.applyPlan());
      Call[] spoils = {
        x -> x.leaveOut(0, 10), x -> x.leaveOut(1, 10), x -> x.dropSeries(0), x -> x.dropSeries(1), x -> x.setRule(0, 2, 1, 1, 0), x -> x.addSeries(0, 11, 600, 60, 1, false)
      };
      for (int k = 0; k < spoils.length; k++) {
        Call spoil = spoils[k];
        boolean isAnew = k == spoils.length - 1;
        refused(STATE, () -> {
          Calendarhall x = twoAtOnce();
          x.plan(3, FIRST, FIRST + DAY);
          // A series with the same number, but without the day.
          if (isAnew) x.dropSeries(0);
          spoil.on(x);
          return x;
        }, x -> x.applyPlan());
      }
      refused(STATE, () -> planned(10), x -> x.applyPlan());
      due(1, () -> planned(9).applyPlan());
      Calendarhall x = planned(9);
      x.applyPlan();
      due(10, () -> x.seriesAt(0, 12));
      // With ten exceptions: a date that is one of them already, or that need not be moved.
      Calendarhall y = planned(9);
      y.move(0, 10, 10, 0);
      due(1, () -> y.applyPlan());
      due(10, () -> y.seriesAt(0, 12));
      Calendarhall z = planned(10);
      z.edit(0, 0, 540);
      due(0, () -> z.applyPlan());
      // Two more are too many, if there is place for one.
      refused(STATE, () -> {
        Calendarhall h = daily();
        h.plan(1, FIRST, FIRST + 2 * DAY);
        for (int k = 0; k < 9; k++) h.leaveOut(0, 30 + k);
        h.edit(0, 0, 601);
        return h;
      }, h -> h.applyPlan());
      // The same series again, with the day: there is a date, and it is moved.
      Calendarhall a = twoAtOnce();
      a.plan(3, FIRST, FIRST + DAY);
      a.dropSeries(0);
      a.addSeries(0, 10, 5, 60, 1, false);
      due(1, () -> a.applyPlan());
      due(14940, () -> a.begin(0, 10));
    });
  }

  private static Calendarhall twoAtOnce() {
    Calendarhall x = fresh();
    for (int k = 0; k < 2; k++) x.addSeries(0, 10, 600, 60, 1, false);
    return x;
  }

  /** A plan by which the date of the series 0 on the day 10 is moved; the series has so many other exceptions. */
  private static Calendarhall planned(int exceptions) {
    Calendarhall x = twoAtOnce();
    x.setRule(0, 1, 1, 0, 0);
    for (int k = 0; k < exceptions; k++) x.leaveOut(0, 20 + k);
    x.plan(3, FIRST, FIRST + DAY);
    return x;
  }

  private static void answer() {
    section("Promise 17");
    of("Lets a person answer for a series.", () -> {
      Calendarhall x = full();
      x.answer(0, 0, 1);
      due(1, () -> x.answerOf(0, 0));
      due(3, () -> x.answerOf(0, 2));
      due(0, () -> x.answerOf(1, 0));
      // The counter-proposal stays.
      x.answer(0, 1, 2);
      due(300, () -> x.counterOf(0, 1));
    });
    of("- `series`: its number", () -> range(0, 2, OUT, () -> full(), (x, series) -> x.answer(series, 1, 0)));
    of("- `person`: one of its people", () -> {
      for (int person : new int[] {1, 7}) taken(() -> full().answer(2, person, 0));
      for (int person : new int[] {0, 2, 6}) refused(BAD, () -> full(), x -> x.answer(2, person, 0));
    });
    of("- `answer`: 0 to 3", () -> range(0, 3, BAD, () -> full(), (x, answer) -> x.answer(0, 0, answer)));
    of("Returns the answer before.", () -> {
      Calendarhall x = daily();
      due(0, () -> x.answer(0, 0, 3));
      due(3, () -> x.answer(0, 0, 3));
      due(3, () -> x.answer(0, 0, 0));
      due(0, () -> x.answer(0, 0, 1));
    });
    of("Throws `IndexOutOfBoundsException` see section 9", () -> {
      noneThere(3, (x, series) -> x.answer(series, 0, 0));
      noneThere(8, (x, person) -> x.answer(0, person, 0));
      due(OUT, () -> daily().answer(0, 8, 4));
      due(OUT, () -> daily().answer(1, 1, 4));
    });
    of("Throws `IllegalArgumentException` if the person is none of the people of the series, or answer is out of range", () -> {
      refused(BAD, () -> daily(), x -> x.answer(0, 1, 0));
      refused(BAD, () -> daily(), x -> x.answer(0, 0, 4));
      refused(BAD, () -> daily(), x -> x.answer(0, 0, -1));
      refused(BAD, () -> twelve(), x -> x.answer(11, 7, 1));
    });
  }

  private static void counter() {
    section("Promise 18");
    of("Lets a person propose another minute of the day for a series, in place of what this person proposed before.", () -> {
      Calendarhall x = daily();
      x.counter(0, 0, 0);
      due(0, () -> x.counterOf(0, 0));
      due(1, () -> x.counter(0, 0, 1439));
      due(1439, () -> x.counterOf(0, 0));
      due(600, () -> x.seriesAt(0, 2));
      due(0, () -> x.answerOf(0, 0));
    });
    of("- `series`: its number", () -> range(0, 2, OUT, () -> full(), (x, series) -> x.counter(series, 1, 0)));
    of("- `person`: one of its people", () -> {
      for (int person : new int[] {1, 7}) taken(() -> full().counter(2, person, 0));
      for (int person : new int[] {0, 2, 6}) refused(BAD, () -> full(), x -> x.counter(2, person, 0));
    });
    of("- `minute`: 0 to 1439", () -> range(0, 1439, BAD, () -> full(), (x, minute) -> x.counter(0, 0, minute)));
    of("Returns how many counter-proposals the series has then.", () -> {
      Calendarhall x = twelve();
      x.edit(0, 2, 255);
      x.edit(1, 2, 255);
      for (int k = 0; k < 8; k++) {
        int person = k;
        due(person + 1, () -> x.counter(0, person, person));
        due(person + 1, () -> x.counter(0, person, 0));
      }
      due(1, () -> x.counter(1, 3, 0));
    });
    of("Throws `IndexOutOfBoundsException` see section 9", () -> {
      noneThere(3, (x, series) -> x.counter(series, 0, 0));
      noneThere(8, (x, person) -> x.counter(0, person, 0));
      due(OUT, () -> daily().counter(0, 8, 1440));
      due(OUT, () -> daily().counter(1, 1, -1));
    });
    of("Throws `IllegalArgumentException` if the person is none of the people of the series, or minute is out of range", () -> {
      refused(BAD, () -> daily(), x -> x.counter(0, 1, 0));
      refused(BAD, () -> daily(), x -> x.counter(0, 0, 1440));
      refused(BAD, () -> daily(), x -> x.counter(0, 0, -1));
    });
  }

  private static void accept() {
    section("Promise 19");
    of("Accepts a counter-proposal: it becomes the minute of the day of the series; this person's answer is yes then, that of all others none yet; all counter-proposals for the series go.", () -> {
      Calendarhall x = full();
      x.answer(0, 0, 2);
      x.answer(0, 1, 2);
      x.counter(0, 0, 77);
      x.counter(1, 1, 88);
      x.answer(1, 2, 1);
      x.accept(0, 1);
      due(300, () -> x.seriesAt(0, 2));
      due(11 * DAY + 300, () -> x.begin(0, 11));
      int[] want = {0, 1, 0, NONE};
      for (int k = 0; k < 4; k++) {
        int person = k;
        due(want[k], () -> x.answerOf(0, person));
        due(NONE, () -> x.counterOf(0, person));
      }
      // Those of other series stay, and so do the exceptions.
      due(88, () -> x.counterOf(1, 1));
      due(1, () -> x.answerOf(1, 2));
      due(2, () -> x.seriesAt(0, 12));
    });
    of("- `series`: its number", () -> {
      range(0, 2, OUT, () -> {
        Calendarhall x = full();
        x.counter(1, 1, 5);
        x.counter(2, 1, 6);
        return x;
      }, (x, series) -> x.accept(series, 1));
    });
    of("- `person`: one of its people", () -> {
      for (int person : new int[] {0, 2, 3, 7}) refused(MISSING, () -> full(), x -> x.accept(0, person));
      taken(() -> full().accept(0, 1));
    });
    of("Returns the minute.", () -> {
      for (int minute : new int[] {0, 600, 1439}) {
        Calendarhall x = daily();
        x.counter(0, 0, minute);
        due(minute, () -> x.accept(0, 0));
      }
    });
    of("Throws `IndexOutOfBoundsException` see section 9", () -> {
      noneThere(3, (x, series) -> x.accept(series, 1));
      noneThere(8, (x, person) -> x.accept(0, person));
    });
    of("Throws `NoSuchElementException` if this person has no counter-proposal for the series", () -> {
      refused(MISSING, () -> full(), x -> x.accept(0, 0));
      refused(MISSING, () -> full(), x -> x.accept(1, 1));
      Calendarhall x = full();
      x.accept(0, 1);
      due(MISSING, () -> x.accept(0, 1));
      // Gone with the person.
      Calendarhall y = full();
      y.edit(0, 2, 5);
      due(MISSING, () -> y.accept(0, 1));
    });
  }

  private static void remind() {
    section("Promise 20");
    of("Adds a reminder.", () -> {
      Calendarhall x = daily();
      due(OUT, () -> x.nextRing(0));
      x.remind(0, 5);
      due(14995, () -> x.nextRing(0));
      due(OUT, () -> x.nextRing(1));
    });
    of("- `series`: its number", () -> range(0, 11, OUT, () -> twelve(), (x, series) -> x.remind(series, 0)));
    of("- `ahead`: 0 to 1440", () -> {
      range(0, 1440, BAD, () -> full(), (x, ahead) -> x.remind(0, ahead));
      Calendarhall x = daily();
      x.remind(0, 0);
      x.remind(0, 1440);
      x.leaveOut(0, 10);
      due(16440, () -> x.nextRing(0));
      due(15000, () -> x.nextRing(1));
    });
    of("Returns the number of the reminder.", () -> {
      Calendarhall x = daily();
      for (int k = 0; k < 10; k++) {
        int number = k;
        due(number, () -> x.remind(0, 0));
      }
      x.forget(3);
      due(3, () -> x.remind(0, 0));
    });
    of("Throws `IndexOutOfBoundsException` see section 9", () -> {
      noneThere(3, (x, series) -> x.remind(series, 0));
      due(OUT, () -> tenReminders().remind(1, 1441));
    });
    of("Throws `IllegalArgumentException` see section 9", () -> {
      due(BAD, () -> daily().remind(0, 1441));
      due(BAD, () -> tenReminders().remind(0, -1));
    });
    of("Throws `IllegalStateException` if there are 10 reminders", () -> {
      refused(STATE, () -> tenReminders(), x -> x.remind(0, 0));
      Calendarhall x = tenReminders();
      x.forget(9);
      due(9, () -> x.remind(0, 0));
      due(STATE, () -> x.remind(0, 0));
      // Those of a series that was dropped count.
      x.dropSeries(0);
      x.addSeries(0, 10, 0, 1, 0, false);
      due(STATE, () -> x.remind(0, 0));
    });
  }

  private static Calendarhall tenReminders() {
    Calendarhall x = daily();
    for (int k = 0; k < 10; k++) x.remind(0, 0);
    return x;
  }

  private static void forget() {
    section("Promise 21");
    of("Drops a reminder.", () -> {
      Calendarhall x = tenReminders();
      x.forget(4);
      due(OUT, () -> x.nextRing(4));
      due(15000, () -> x.nextRing(3));
      due(15000, () -> x.nextRing(5));
      due(9, () -> x.pass(600));
      for (int k = 0; k < 9; k++) {
        int ring = k;
        due(ring < 4 ? ring : ring + 1, () -> x.ringAt(ring, 0));
      }
    });
    of("Rings that are kept or snoozed stay.", () -> {
      Calendarhall x = daily();
      x.remind(0, 0);
      x.pass(600);
      x.snooze(0, 10);
      x.forget(0);
      due(1, () -> x.rings());
      due(0, () -> x.ringAt(0, 0));
      due(10, () -> x.ringAt(0, 1));
      due(1, () -> x.pass(10));
      due(1, () -> x.ringAt(1, 3));
      due(15020, () -> x.snooze(1, 10));
    });
    of("- `reminder`: its number", () -> range(0, 9, OUT, () -> tenReminders(), (x, reminder) -> x.forget(reminder)));
    of("Returns how many are left.", () -> {
      Calendarhall x = tenReminders();
      for (int k = 9; k >= 0; k--) {
        int left = k;
        due(left, () -> x.forget(9 - left));
      }
    });
    of("Throws `IndexOutOfBoundsException` see section 9", () -> {
      noneThere(2, (x, reminder) -> x.forget(reminder));
      due(OUT, () -> fresh().forget(0));
      Calendarhall x = tenReminders();
      x.forget(0);
      due(OUT, () -> x.forget(0));
    });
  }

  private static void pass() {
    section("Promise 22");
    of("Lets the clock of the hall go on.", () -> {
      Calendarhall x = fresh();
      x.pass(1);
      due(14401, () -> x.now());
      x.pass(1440);
      due(15841, () -> x.now());
    });
    of("- `minutes`: 1 to 1440", () -> range(1, 1440, BAD, () -> full(), (x, minutes) -> x.pass(minutes)));
    of("Returns how many rings came.", () -> {
      due(0, () -> fresh().pass(1440));
      Calendarhall x = tenReminders();
      due(0, () -> x.pass(599));
      due(10, () -> x.pass(1));
      for (int k = 0; k < 10; k++) {
        int ring = k;
        due(15001, () -> x.snooze(ring, 1));
      }
      due(10, () -> x.pass(1));
      due(0, () -> x.pass(1));
      due(10, () -> x.pass(1440));
      // More than are kept: ten reminders, for the dates of the day 13 and of ten days that were moved to it.
      for (int k = 0; k < 10; k++) x.move(0, 20 + k, 13, k);
      x.pass(100);
      x.pass(1000);
      due(110, () -> x.pass(1440));
      due(30, () -> x.rings());
    });
    of("Throws `IllegalArgumentException` see section 9", () -> {
      for (int minutes : new int[] {0, -1, 1441, LEAST, MOST}) due(BAD, () -> fresh().pass(minutes));
    });
    of("Throws `IllegalStateException` if the clock would tell more than 210240000", () -> {
      // As far as the clock comes in 512 calls nothing is refused.
      Calendarhall x = fresh();
      for (int k = 0; k < 510; k++) due(0, () -> x.pass(1440));
      due(FIRST + 510 * DAY, () -> x.now());
      // It takes many more calls to come so far. What they answer is free, but this is what we let them answer.
      Calendarhall y = fresh();
      for (int k = 10; k < 145999; k++) y.pass(1440);
      due(0, () -> y.pass(1439));
      due(LAST - 1, () -> y.now());
      due(STATE, () -> y.pass(2));
      due(STATE, () -> y.pass(1440));
      due(BAD, () -> y.pass(1441));
      due(LAST - 1, () -> y.now());
      due(0, () -> y.pass(1));
      due(LAST, () -> y.now());
      due(STATE, () -> y.pass(1));
      due(7, () -> y.undo());
    });
  }

  /** One ring, and the clock at 15010. */
  private static Calendarhall rung() {
    Calendarhall x = daily();
    x.remind(0, 0);
    x.pass(610);
    return x;
  }

  private static void snooze() {
    section("Promise 23");
    of("Snoozes a ring.", () -> {
      Calendarhall x = rung();
      x.snooze(0, 5);
      due(1, () -> x.rings());
      due(1, () -> x.pass(5));
      due(2, () -> x.rings());
      due(0, () -> x.ringAt(0, 3));
      due(1, () -> x.ringAt(1, 3));
      due(0, () -> x.pass(5));
      // Twice the same ring comes twice; the reminder goes on meanwhile.
      x.snooze(0, 7);
      x.snooze(0, 7);
      due(2, () -> x.pass(7));
      due(16440, () -> x.nextRing(0));
    });
    of("- `ring`: its number", () -> {
      range(0, 0, OUT, () -> rung(), (x, ring) -> x.snooze(ring, 1));
      Calendarhall x = tenReminders();
      for (int k = 0; k < 4; k++) x.pass(1440);
      due(30, () -> x.rings());
      due(OUT, () -> x.snooze(30, 1));
      taken(() -> x.snooze(29, 1));
      taken(() -> x.snooze(0, 1));
    });
    of("- `minutes`: 1 to 600", () -> range(1, 600, BAD, () -> full(), (x, minutes) -> x.snooze(0, minutes)));
    of("Returns the common minute at which it comes once more.", () -> {
      due(15011, () -> rung().snooze(0, 1));
      due(15610, () -> rung().snooze(0, 600));
      Calendarhall x = rung();
      x.snooze(0, 600);
      due(0, () -> x.pass(599));
      due(1, () -> x.pass(1));
      due(15610, () -> x.ringAt(1, 2));
    });
    of("Throws `IndexOutOfBoundsException` see section 9", () -> {
      refused(OUT, () -> rung(), x -> x.snooze(1, 1));
      refused(OUT, () -> rung(), x -> x.snooze(-1, 1));
      due(OUT, () -> fresh().snooze(0, 601));
      due(OUT, () -> tenSnoozed().snooze(1, 0));
    });
    of("Throws `IllegalArgumentException` see section 9", () -> {
      due(BAD, () -> rung().snooze(0, 0));
      due(BAD, () -> rung().snooze(0, 601));
      due(BAD, () -> tenSnoozed().snooze(0, 0));
    });
    of("Throws `IllegalStateException` if 10 rings are snoozed that did not come yet", () -> {
      refused(STATE, () -> tenSnoozed(), x -> x.snooze(0, 1));
      // The first one of them comes at 15011.
      Calendarhall x = tenSnoozed();
      due(1, () -> x.pass(1));
      due(15611, () -> x.snooze(0, 600));
      due(STATE, () -> x.snooze(0, 1));
      due(9, () -> x.pass(9));
      for (int k = 1; k <= 10; k++) {
        int ring = k;
        due(15010 + ring, () -> x.ringAt(ring, 2));
      }
      for (int k = 0; k < 9; k++) {
        int minutes = 10 + k;
        due(15020 + minutes, () -> x.snooze(0, minutes));
      }
      due(STATE, () -> x.snooze(0, 1));
      due(10, () -> x.pass(600));
    });
  }

  private static Calendarhall tenSnoozed() {
    Calendarhall x = rung();
    for (int k = 0; k < 10; k++) x.snooze(0, k + 1);
    return x;
  }

  private static void change() {
    section("Promise 24");
    of("Makes a change on a device.", () -> {
      Calendarhall x = fresh();
      x.change(0, 11, 3, 999);
      due(999, () -> x.shown(0, 11, 3));
      due(NONE, () -> x.shown(1, 11, 3));
      x.change(0, 11, 3, 0);
      due(0, () -> x.shown(0, 11, 3));
    });
    of("- `device`: 0 or 1", () -> range(0, 1, OUT, () -> full(), (x, device) -> x.change(device, 0, 0, 0)));
    of("- `number`: 0 to 11", () -> range(0, 11, BAD, () -> full(), (x, number) -> x.change(0, number, 0, 0)));
    of("- `field`: 0 to 3", () -> range(0, 3, BAD, () -> full(), (x, field) -> x.change(0, 0, field, 0)));
    of("- `value`: 0 to 999", () -> range(0, 999, BAD, () -> full(), (x, value) -> x.change(0, 0, 0, value)));
    of("Returns the clock of the change.", () -> {
      Calendarhall x = fresh();
      due(1, () -> x.change(0, 0, 0, 0));
      due(2, () -> x.change(0, 0, 0, 0));
      due(1, () -> x.change(1, 0, 0, 0));
      x.deliver(0, 1);
      due(3, () -> x.change(1, 0, 0, 0));
    });
    of("Throws `IndexOutOfBoundsException` see section 9", () -> {
      noneThere(2, (x, device) -> x.change(device, 0, 0, 0));
      due(OUT, () -> fresh().change(2, 12, 4, 1000));
      due(OUT, () -> forty().change(2, 0, 0, 0));
    });
    of("Throws `IllegalArgumentException` see section 9", () -> {
      due(BAD, () -> fresh().change(0, 12, 0, 0));
      due(BAD, () -> fresh().change(0, 0, 4, 0));
      due(BAD, () -> fresh().change(0, 0, 0, 1000));
      due(BAD, () -> forty().change(1, 0, 0, -1));
    });
    of("Throws `IllegalStateException` if the device has made 40 changes", () -> {
      refused(STATE, () -> forty(), x -> x.change(1, 0, 0, 0));
      due(1, () -> forty().change(0, 0, 0, 0));
      Calendarhall x = forty();
      x.undo();
      due(40, () -> x.change(1, 0, 0, 7));
      due(STATE, () -> x.change(1, 0, 0, 7));
      due(7, () -> x.shown(1, 0, 0));
    });
  }

  /** The device 1 has made forty changes. */
  private static Calendarhall forty() {
    Calendarhall x = fresh();
    for (int k = 0; k < 40; k++) x.change(1, k % 12, k % 4, k);
    return x;
  }

  private static void deliver() {
    section("Promise 25");
    of("Lets a change of a device come to the other one (once more, if it did so already: nothing is different then).", () -> {
      Calendarhall x = fresh();
      x.change(0, 0, 0, 5);
      due(1, () -> x.deliver(0, 0));
      due(5, () -> x.shown(1, 0, 0));
      x.change(1, 0, 0, 6);
      due(2, () -> x.deliver(0, 0));
      due(6, () -> x.shown(1, 0, 0));
      due(2, () -> x.deliver(1, 0));
      due(6, () -> x.shown(0, 0, 0));
      due(3, () -> x.change(0, 0, 0, 7));
    });
    of("- `device`: 0 or 1, on which it was made", () -> range(0, 1, OUT, () -> full(), (x, device) -> x.deliver(device, 0)));
    of("- `change`: its number there", () -> {
      range(0, 39, OUT, () -> forty(), (x, change) -> x.deliver(1, change));
      range(0, 0, OUT, () -> full(), (x, change) -> x.deliver(0, change));
      for (int k = 0; k < 40; k++) {
        int change = k;
        Calendarhall x = forty();
        due(change + 1, () -> x.deliver(1, change));
        due(change, () -> x.shown(0, change % 12, change % 4));
      }
    });
    of("Returns the clock of the other device then.", () -> {
      Calendarhall x = forty();
      due(40, () -> x.deliver(1, 39));
      due(40, () -> x.deliver(1, 0));
      due(41, () -> x.change(0, 0, 0, 0));
      due(41, () -> x.deliver(0, 0));
    });
    of("Throws `IndexOutOfBoundsException` if there is no such device or change", () -> {
      noneThere(2, (x, device) -> x.deliver(device, 0));
      noneThere(1, (x, change) -> x.deliver(0, change));
      due(OUT, () -> fresh().deliver(0, 0));
      due(OUT, () -> forty().deliver(1, 40));
      due(OUT, () -> forty().deliver(0, 0));
    });
  }

  private static void undo() {
    section("Promise 26");
    of("Undoes the latest change that was not undone.", () -> {
      Calendarhall x = fresh();
      for (int k = 1; k <= 3; k++) x.pass(k);
      x.undo();
      due(14403, () -> x.now());
      x.undo();
      due(14401, () -> x.now());
      // A change that comes then is the latest one.
      x.pass(100);
      due(1, () -> x.undo());
      due(14401, () -> x.now());
      due(0, () -> x.undo());
      due(14400, () -> x.now());
    });
    of("Returns how many changes can still be undone.", () -> {
      Calendarhall x = fresh();
      for (int k = 0; k < 20; k++) x.pass(1);
      for (int k = 7; k >= 5; k--) {
        int left = k;
        due(left, () -> x.undo());
      }
      // Five can be undone, and the two that come now; then eight again, of which the eldest is the third one of twenty.
      x.pass(1);
      x.pass(1);
      due(6, () -> x.undo());
      for (int k = 0; k < 9; k++) x.pass(1);
      for (int k = 7; k >= 0; k--) {
        int left = k;
        due(left, () -> x.undo());
      }
      due(STATE, () -> x.undo());
    });
    of("Throws `IllegalStateException` if there is none", () -> {
      refused(STATE, () -> fresh(), x -> x.undo());
      Calendarhall x = fresh();
      x.pass(1);
      due(0, () -> x.undo());
      due(STATE, () -> x.undo());
      // Neither questions nor refused calls are changes.
      x.plan(1, FIRST, FIRST + 1);
      x.type(65);
      due(BAD, () -> x.pass(0));
      due(STATE, () -> x.undo());
      Calendarhall y = fresh();
      for (int k = 0; k < 9; k++) y.pass(1);
      for (int k = 0; k < 8; k++) y.undo();
      due(STATE, () -> y.undo());
      due(14401, () -> y.now());
    });
  }
}
