import java.util.NoSuchElementException;

/**
 * A calendar hall: dates that repeat by rules, zones whose clocks go forth and back, people, rooms,
 * plans, reminders and two devices. What each call must answer is told in ../shared/DOC.md.
 *
 * All rows are made in constructors and used again; a call makes no object but the exception that
 * it throws (and the room of what is written, which grows to its greatest length once).
 */
public final class Calendarhall {
  public static final int NONE = -1;
  public static final int ONCE = 0, DAYS = 1, WEEKS = 2, MONTHS = 3, SETS = 4, YEARS = 5;
  public static final int NOT_YET = 0, YES = 1, NO = 2, MAYBE = 3;

  private static final int DAY = 1440;
  private static final int FIRST_DAY = 10, LAST_DAY = 146000, VERY_LAST_DAY = 146096;
  private static final int FIRST_MINUTE = 14400, LAST_MINUTE = 210240000;
  /** A minute behind all that can be reached; a length may be added to it without going round. */
  private static final int FAR = 1000000000;

  private static final int ZONES = 3, PEOPLE = 8, ROOMS = 4, ALL_SERIES = 12;
  private static final int EXCEPTIONS = 10, REMINDERS = 10, SNOOZES = 10, RINGS = 30, UNDOS = 8;
  private static final int DEVICES = 2, CHANGES = 40, NUMBERS = 12, FIELDS = 4;
  private static final int TEXT = 120;
  private static final int NO_END = 0, BY_COUNT = 1, BY_LAST_DAY = 2;

  private static final int WEEK_PIECE = 10080, TWO_WEEK_PIECE = 20160, YEAR_PIECE = 525600;
  /** So many times of a quarter of an hour a piece of a week holds. */
  private static final int TRIES = 672;

  private final Hall hall = new Hall();
  private final Hall[] saved = new Hall[UNDOS];
  private int savedNext;
  private int savedCount;
  private final Dates dates = new Dates();
  private final Meetings meetings = new Meetings();
  private final Planner planner = new Planner();
  private final Reader reader = new Reader();
  private final StringBuilder written = new StringBuilder();
  private final int[] costs = new int[TRIES];

  public Calendarhall() {
    for (int k = 0; k < saved.length; k++) saved[k] = new Hall();
  }

  // ---- Changes: zones, people, rooms.

  public int setZone(int zone, int offset, int shift) throws IndexOutOfBoundsException, IllegalArgumentException {
    Zone one = zoneNumbered(zone);
    needRange(offset, -720, 840);
    needRange(shift, 0, 120);
    if (offset % 15 != 0 || shift % 15 != 0) throw new IllegalArgumentException();
    int before = one.offset;
    saveForUndo();
    one.offset = offset;
    one.shift = shift;
    return before;
  }

  public int setSwitch(int zone, boolean isForth, int month, int place, int weekday, int minute) throws IndexOutOfBoundsException, IllegalArgumentException {
    Zone one = zoneNumbered(zone);
    needRange(month, 1, 12);
    needRange(place, 1, 5);
    needRange(weekday, 0, 6);
    needRange(minute, 0, DAY - 1);
    if (month == one.switchMonth(!isForth)) throw new IllegalArgumentException();
    int before = one.switchMonth(isForth);
    saveForUndo();
    one.putSwitch(isForth, month, place, weekday, minute);
    return before;
  }

  public int setPerson(int person, int zone, int days, int from, int to) throws IndexOutOfBoundsException, IllegalArgumentException {
    Person one = personNumbered(person);
    zoneNumbered(zone);
    needRange(days, 0, 127);
    needRange(from, 0, DAY - 1);
    needRange(to, from + 1, DAY);
    int before = one.zone;
    saveForUndo();
    one.put(zone, days, from, to);
    return before;
  }

  public int setRoom(int room, int building) throws IndexOutOfBoundsException, IllegalArgumentException {
    if (room < 0 || room >= hall.buildings.length) throw new IndexOutOfBoundsException();
    needRange(building, 0, 9);
    int before = hall.buildings[room];
    saveForUndo();
    hall.buildings[room] = building;
    return before;
  }

  // ---- Changes: series.

  public int addSeries(int zone, int day, int minute, int length, int people, boolean needsRoom) throws IndexOutOfBoundsException, IllegalArgumentException, IllegalStateException {
    zoneNumbered(zone);
    needDay(day);
    needRange(minute, 0, DAY - 1);
    needRange(length, 1, 600);
    needRange(people, 0, 255);
    int number = hall.freeSeries();
    if (number == NONE) throw new IllegalStateException();
    saveForUndo();
    Series made = hall.anySeries(number);
    made.start(zone, day);
    made.rule.settle();
    made.minute = minute;
    made.length = length;
    made.people = people;
    made.needsRoom = needsRoom;
    return number;
  }

  public int dropSeries(int series) throws IndexOutOfBoundsException {
    Series one = seriesNumbered(series);
    saveForUndo();
    one.isThere = false;
    return hall.countSeries();
  }

  public int setRule(int series, int kind, int step, int days, int place) throws IndexOutOfBoundsException, IllegalArgumentException {
    Series one = seriesNumbered(series);
    if (!Rule.isSound(kind, step, days, place)) throw new IllegalArgumentException();
    int before = one.rule.kind;
    saveForUndo();
    one.exceptions = 0;
    one.rule.put(kind, step, days, place);
    one.rule.settle();
    return before;
  }

  public int setEnd(int series, int how, int number) throws IndexOutOfBoundsException, IllegalArgumentException {
    Series one = seriesNumbered(series);
    needRange(how, NO_END, BY_LAST_DAY);
    if (how == NO_END) needRange(number, 0, 0);
    else if (how == BY_COUNT) needRange(number, 1, 500);
    else needRange(number, one.rule.first, LAST_DAY);
    int before = one.rule.how;
    saveForUndo();
    one.exceptions = 0;
    one.rule.putEnd(how, number);
    one.rule.settle();
    return before;
  }

  public int readRule(int series) throws IndexOutOfBoundsException, IllegalArgumentException {
    Series one = seriesNumbered(series);
    if (reader.parse(one.rule.first) != NONE) throw new IllegalArgumentException();
    Rule told = reader.rule;
    saveForUndo();
    one.exceptions = 0;
    one.rule.put(told.kind, told.step, told.days, told.place);
    one.rule.putEnd(told.how, told.number);
    one.rule.settle();
    return told.kind;
  }

  public int edit(int series, int field, int value) throws IndexOutOfBoundsException, IllegalArgumentException {
    Series one = seriesNumbered(series);
    needRange(field, 0, 3);
    if (field == 0) needRange(value, 0, DAY - 1);
    else if (field == 1) needRange(value, 1, 600);
    else if (field == 2) needRange(value, 0, 255);
    else needRange(value, 0, 1);
    int before = one.tell(field + 2);
    saveForUndo();
    if (field == 0) one.minute = value;
    else if (field == 1) one.length = value;
    else if (field == 2) one.invite(value);
    else one.needsRoom = value == 1;
    return before;
  }

  public int leaveOut(int series, int day) throws IndexOutOfBoundsException, NoSuchElementException, IllegalStateException {
    Series one = seriesNumbered(series);
    if (!one.rule.isDay(day)) throw new NoSuchElementException();
    if (!one.hasPlaceFor(day)) throw new IllegalStateException();
    saveForUndo();
    one.except(day, NONE);
    return one.exceptions;
  }

  public int move(int series, int day, int toDay, int toMinute) throws IndexOutOfBoundsException, IllegalArgumentException, NoSuchElementException, IllegalStateException {
    Series one = seriesNumbered(series);
    needDay(toDay);
    needRange(toMinute, 0, DAY - 1);
    if (!one.rule.isDay(day)) throw new NoSuchElementException();
    if (!one.hasPlaceFor(day)) throw new IllegalStateException();
    saveForUndo();
    int local = toDay * DAY + toMinute;
    one.except(day, local);
    return hall.zoneOf(one).commonOf(local);
  }

  public int bringBack(int series, int day) throws IndexOutOfBoundsException, NoSuchElementException {
    Series one = seriesNumbered(series);
    int place = one.exceptionOf(day);
    if (place == NONE) throw new NoSuchElementException();
    saveForUndo();
    one.dropException(place);
    return one.exceptions;
  }

  public int fromHere(int series, int day, int minute, int length) throws IndexOutOfBoundsException, IllegalArgumentException, NoSuchElementException, IllegalStateException {
    Series old = seriesNumbered(series);
    needRange(minute, 0, DAY - 1);
    needRange(length, 1, 600);
    if (!old.rule.isDay(day) || old.rule.next(FIRST_DAY) == day) throw new NoSuchElementException();
    int number = hall.freeSeries();
    if (number == NONE) throw new IllegalStateException();
    saveForUndo();
    Series made = hall.anySeries(number);
    made.copyFrom(old);
    made.minute = minute;
    made.length = length;
    made.keepExceptions(day, LAST_DAY);
    made.rule.beginAt(day);
    old.keepExceptions(FIRST_DAY, day - 1);
    old.rule.putEnd(BY_LAST_DAY, day - 1);
    old.rule.settle();
    return number;
  }

  public int applyPlan() throws IllegalStateException {
    if (!planner.isKept || !planner.canApply(hall)) throw new IllegalStateException();
    saveForUndo();
    int moved = 0;
    for (int k = 0; k < planner.count(); k++) {
      if (planner.applyTo(hall, k)) moved++;
    }
    planner.isKept = false;
    return moved;
  }

  // ---- Changes: answers, reminders, devices.

  public int answer(int series, int person, int answer) throws IndexOutOfBoundsException, IllegalArgumentException {
    Series one = seriesNumbered(series);
    personNumbered(person);
    if (!one.isInvited(person)) throw new IllegalArgumentException();
    needRange(answer, NOT_YET, MAYBE);
    int before = one.answerBy(person);
    saveForUndo();
    one.putAnswer(person, answer);
    return before;
  }

  public int counter(int series, int person, int minute) throws IndexOutOfBoundsException, IllegalArgumentException {
    Series one = seriesNumbered(series);
    personNumbered(person);
    if (!one.isInvited(person)) throw new IllegalArgumentException();
    needRange(minute, 0, DAY - 1);
    saveForUndo();
    one.putCounter(person, minute);
    return one.countCounters();
  }

  public int accept(int series, int person) throws IndexOutOfBoundsException, NoSuchElementException {
    Series one = seriesNumbered(series);
    personNumbered(person);
    int minute = one.counterBy(person);
    if (minute == NONE) throw new NoSuchElementException();
    saveForUndo();
    one.minute = minute;
    one.forgetAnswers();
    one.putAnswer(person, YES);
    return minute;
  }

  public int remind(int series, int ahead) throws IndexOutOfBoundsException, IllegalArgumentException, IllegalStateException {
    seriesNumbered(series);
    needRange(ahead, 0, DAY);
    int number = hall.freeReminder();
    if (number == NONE) throw new IllegalStateException();
    saveForUndo();
    hall.putReminder(number, series, ahead);
    return number;
  }

  public int forget(int reminder) throws IndexOutOfBoundsException {
    if (!hall.isReminder(reminder)) throw new IndexOutOfBoundsException();
    saveForUndo();
    hall.putReminder(reminder, NONE, 0);
    return hall.countReminders();
  }

  public int pass(int minutes) throws IllegalArgumentException, IllegalStateException {
    needRange(minutes, 1, DAY);
    if (hall.clock + minutes > LAST_MINUTE) throw new IllegalStateException();
    saveForUndo();
    dates.clear();
    hall.collectRings(dates, hall.clock + minutes);
    hall.takeSnoozes(dates, hall.clock + minutes);
    hall.clock += minutes;
    for (int k = 0; k < dates.count; k++) hall.keepRing(dates.rowAt(k));
    return dates.count;
  }

  public int snooze(int ring, int minutes) throws IndexOutOfBoundsException, IllegalArgumentException, IllegalStateException {
    if (ring < 0 || ring >= hall.ringCount) throw new IndexOutOfBoundsException();
    needRange(minutes, 1, 600);
    if (hall.snoozeCount >= SNOOZES) throw new IllegalStateException();
    saveForUndo();
    int minute = hall.clock + minutes;
    hall.addSnooze(Dates.row(minute, Dates.numberOf(hall.ringNumbered(ring)), Dates.dayIn(hall.ringNumbered(ring)), 1));
    return minute;
  }

  public int change(int device, int number, int field, int value) throws IndexOutOfBoundsException, IllegalArgumentException, IllegalStateException {
    Device one = deviceNumbered(device);
    needRange(number, 0, NUMBERS - 1);
    needRange(field, 0, FIELDS - 1);
    needRange(value, 0, 999);
    if (one.count >= CHANGES) throw new IllegalStateException();
    saveForUndo();
    one.make(device, number * FIELDS + field, value);
    return one.clock;
  }

  public int deliver(int device, int change) throws IndexOutOfBoundsException {
    Device one = deviceNumbered(device);
    if (change < 0 || change >= one.count) throw new IndexOutOfBoundsException();
    Device other = deviceNumbered(1 - device);
    saveForUndo();
    other.receive(one, device, change);
    return other.clock;
  }

  public int undo() throws IllegalStateException {
    if (savedCount < 1) throw new IllegalStateException();
    savedCount--;
    savedNext = savedNext < 1 ? UNDOS - 1 : savedNext - 1;
    Hall row = savedNext < saved.length ? saved[savedNext] : null;
    if (row != null) hall.copyFrom(row);
    return savedCount;
  }

  // ---- days, zones.

  public int dayOf(int year, int month, int number) throws IllegalArgumentException {
    needRange(year, 2000, 2399);
    needRange(month, 1, 12);
    int index = (year - 2000) * 12 + month - 1;
    if (number < 1 || number > Days.monthLength(index)) return NONE;
    return Days.monthBegin(index) + number - 1;
  }

  public int dayAt(int day, int what) throws IllegalArgumentException {
    needRange(day, 0, VERY_LAST_DAY);
    needRange(what, 0, 4);
    int month = Days.monthOf(day);
    if (what == 0) return 2000 + month / 12;
    if (what == 1) return month % 12 + 1;
    if (what == 2) return day - Days.monthBegin(month) + 1;
    if (what == 3) return Days.weekdayOf(day);
    return day - Days.monthBegin(month - month % 12) + 1;
  }

  public int toLocal(int zone, int minute) throws IndexOutOfBoundsException, IllegalArgumentException {
    Zone one = zoneNumbered(zone);
    needMinute(minute);
    return one.localOf(minute);
  }

  public int toCommon(int zone, int minute, boolean isSecond) throws IndexOutOfBoundsException, IllegalArgumentException {
    Zone one = zoneNumbered(zone);
    needMinute(minute);
    return isSecond ? one.secondOf(minute) : one.firstOf(minute);
  }

  // ---- series.

  public int seriesAt(int series, int what) throws IndexOutOfBoundsException, IllegalArgumentException {
    Series one = seriesNumbered(series);
    needRange(what, 0, 12);
    return one.tell(what);
  }

  public int nextDay(int series, int day) throws IndexOutOfBoundsException, IllegalArgumentException {
    Series one = seriesNumbered(series);
    needDay(day);
    return one.rule.next(day);
  }

  public int countDays(int series, int from, int to) throws IndexOutOfBoundsException, IllegalArgumentException {
    Series one = seriesNumbered(series);
    needDay(from);
    needRange(to, from, LAST_DAY);
    return one.rule.count(from, to);
  }

  public int dayOfSeries(int series, int place) throws IndexOutOfBoundsException, IllegalArgumentException, NoSuchElementException {
    Series one = seriesNumbered(series);
    needRange(place, 0, 500);
    int day = one.rule.dayByPlace(place);
    if (day == NONE) throw new NoSuchElementException();
    return day;
  }

  public int begin(int series, int day) throws IndexOutOfBoundsException, NoSuchElementException {
    Series one = seriesNumbered(series);
    if (!one.rule.isDay(day)) throw new NoSuchElementException();
    return one.beginOf(hall.zoneOf(one), day);
  }

  public int nextDate(int series, int minute) throws IndexOutOfBoundsException, IllegalArgumentException {
    Series one = seriesNumbered(series);
    needMinute(minute);
    long row = one.firstRow(hall.zoneOf(one), minute);
    return row == NONE ? NONE : Dates.dayIn(row);
  }

  public int countDates(int series, int from, int to) throws IndexOutOfBoundsException, IllegalArgumentException {
    Series one = seriesNumbered(series);
    needPiece(from, to, YEAR_PIECE);
    return one.countBegins(hall.zoneOf(one), from, to);
  }

  public int answerOf(int series, int person) throws IndexOutOfBoundsException {
    Series one = seriesNumbered(series);
    personNumbered(person);
    return one.isInvited(person) ? one.answerBy(person) : NONE;
  }

  public int counterOf(int series, int person) throws IndexOutOfBoundsException {
    Series one = seriesNumbered(series);
    personNumbered(person);
    return one.counterBy(person);
  }

  // ---- busy and free.

  public int datesAt(int person, int minute) throws IndexOutOfBoundsException, IllegalArgumentException {
    personNumbered(person);
    needMinute(minute);
    int mask = hall.seriesOf(1 << person);
    int count = 0;
    for (int k = 0; k < ALL_SERIES; k++) {
      Series one = hall.anySeries(k);
      if ((mask >> k & 1) == 1) count += one.countBegins(hall.zoneOf(one), minute - one.length + 1, minute + 1);
    }
    return count;
  }

  public int minutesOf(int person, int from, int to, int which) throws IndexOutOfBoundsException, IllegalArgumentException {
    Person one = personNumbered(person);
    needPiece(from, to, TWO_WEEK_PIECE);
    needRange(which, 0, 2);
    if (which != 1) hall.collectOn(dates, hall.seriesOf(1 << person), from, to);
    return countMinutes(one, from, to, which);
  }

  public int freeNext(int people, int from, int to, int length, boolean isWork) throws IllegalArgumentException {
    needRange(people, 1, 255);
    needPiece(from, to, TWO_WEEK_PIECE);
    needRange(length, 1, 600);
    hall.collectOn(dates, hall.seriesOf(people), from, to);
    int at = from;
    // Each turn but the last goes on by a minute at least.
    for (int turn = 0; turn <= TWO_WEEK_PIECE && at + length <= to; turn++) {
      int next = behindBusy(at, length);
      if (next == at && isWork) next = behindIdle(people, at, length, to);
      if (next == at) return at;
      at = next;
    }
    return NONE;
  }

  public int best(int people, int from, int to, int length, boolean isCost) throws IllegalArgumentException {
    needRange(people, 1, 255);
    needPiece(from, to, WEEK_PIECE);
    needRange(length, 1, 600);
    if (to - from < length) return NONE;
    int tries = Math.min((to - from - length) / 15 + 1, costs.length);
    for (int k = 0; k < tries; k++) costs[k] = 0;
    for (int person = 0; person < PEOPLE; person++) {
      if ((people >> person & 1) == 0) continue;
      hall.collectOn(dates, hall.seriesOf(1 << person), from, to);
      addCosts(hall.anyPerson(person), from, to, length, tries);
    }
    int least = 0;
    for (int k = 1; k < tries; k++) if (costs[k] < costs[least]) least = k;
    return isCost ? costs[least] : from + 15 * least;
  }

  public int clashes(int person, int from, int to) throws IndexOutOfBoundsException, IllegalArgumentException {
    personNumbered(person);
    needPiece(from, to, WEEK_PIECE);
    hall.collect(dates, hall.seriesOf(1 << person), from, to);
    return meetings.findClashes(dates, hall);
  }

  public int clashAt(int clash, int what) throws IllegalArgumentException, NoSuchElementException {
    if (clash < 0) throw new IllegalArgumentException();
    needRange(what, 0, 3);
    if (clash >= meetings.clashCount) throw new NoSuchElementException();
    long row = meetings.rowOfClash(clash, what > 1);
    return what % 2 == 0 ? Dates.numberOf(row) : Dates.dayIn(row);
  }

  // ---- rooms, plans.

  public int roomsNeeded(int from, int to) throws IllegalArgumentException {
    needPiece(from, to, WEEK_PIECE);
    hall.collect(dates, hall.seriesWithRoom(), from, to);
    return dates.mostAtOnce();
  }

  public int layRooms(int from, int to) throws IllegalArgumentException {
    needPiece(from, to, WEEK_PIECE);
    hall.collect(dates, hall.seriesWithRoom(), from, to);
    return meetings.lay(dates);
  }

  public int roomOf(int series, int day) throws NoSuchElementException {
    int place = meetings.placeOf(series, day);
    if (place == NONE) throw new NoSuchElementException();
    return meetings.roomAt(place);
  }

  public int plan(int series, int from, int to) throws IllegalArgumentException, IllegalStateException {
    needRange(series, 1, 4095);
    needPiece(from, to, WEEK_PIECE);
    hall.collect(dates, series, from, to);
    if (dates.count > Planner.MOST) throw new IllegalStateException();
    planner.fill(dates, hall);
    return planner.search(from, to);
  }

  public int planAt(int place, int what) throws IllegalArgumentException, NoSuchElementException {
    if (place < 0) throw new IllegalArgumentException();
    needRange(what, 0, 2);
    if (!planner.isKept || place >= planner.count()) throw new NoSuchElementException();
    if (what == 0) return planner.numberAt(place);
    return what == 1 ? planner.dayByPlace(place) : planner.beginAt(place);
  }

  // ---- clock, rings, devices.

  public int now() {
    return hall.clock;
  }

  public int nextRing(int reminder) throws IndexOutOfBoundsException {
    if (!hall.isReminder(reminder)) throw new IndexOutOfBoundsException();
    return hall.ringBehindClock(reminder);
  }

  public int rings() {
    return hall.ringCount;
  }

  public int ringAt(int ring, int what) throws IndexOutOfBoundsException, IllegalArgumentException {
    if (ring < 0 || ring >= hall.ringCount) throw new IndexOutOfBoundsException();
    needRange(what, 0, 3);
    long row = hall.ringNumbered(ring);
    if (what == 0) return Dates.numberOf(row);
    if (what == 1) return Dates.dayIn(row);
    return what == 2 ? Dates.minuteOf(row) : Dates.flagOf(row);
  }

  public int shown(int device, int number, int field) throws IndexOutOfBoundsException, IllegalArgumentException {
    Device one = deviceNumbered(device);
    needRange(number, 0, NUMBERS - 1);
    needRange(field, 0, FIELDS - 1);
    return one.valueAt(number * FIELDS + field);
  }

  public boolean areAlike() {
    Device one = deviceNumbered(0);
    Device other = deviceNumbered(1);
    for (int place = 0; place < NUMBERS * FIELDS; place++) {
      if (one.valueAt(place) != other.valueAt(place)) return false;
    }
    return true;
  }

  // ---- text.

  public int type(long bytes) throws IllegalStateException {
    int more = 0;
    for (int shift = 0; shift < 64; shift += 8) if ((bytes >>> shift & 255) != 0) more++;
    if (reader.length + more > TEXT) throw new IllegalStateException();
    for (int shift = 56; shift >= 0; shift -= 8) {
      int one = (int) (bytes >>> shift & 255);
      if (one != 0) reader.append(one);
    }
    return reader.length;
  }

  public int clearText() {
    int before = reader.length;
    reader.length = 0;
    return before;
  }

  public int errorPlace() {
    return reader.parse(FIRST_DAY);
  }

  public int write(int series) throws IndexOutOfBoundsException {
    Series one = seriesNumbered(series);
    written.setLength(0);
    one.rule.writeTo(written);
    return written.length();
  }

  public int writtenAt(int place) throws NoSuchElementException {
    if (place < 0 || place >= written.length()) throw new NoSuchElementException();
    return written.charAt(place);
  }

  // ---- measures.

  public double busyShare(int person, int from, int to) throws IndexOutOfBoundsException, IllegalArgumentException {
    Person one = personNumbered(person);
    needPiece(from, to, TWO_WEEK_PIECE);
    hall.collectOn(dates, hall.seriesOf(1 << person), from, to);
    int work = countMinutes(one, from, to, 1);
    if (work < 1) return 0.0;
    return (double) countMinutes(one, from, to, 2) / (double) work;
  }

  public float meanLength() {
    int count = hall.countSeries();
    if (count < 1) return 0.0f;
    int sum = 0;
    for (int k = 0; k < ALL_SERIES; k++) {
      if (hall.anySeries(k).isThere) sum += hall.anySeries(k).length;
    }
    return (float) sum / (float) count;
  }

  public long checksum(int from, int to) throws IllegalArgumentException {
    needPiece(from, to, WEEK_PIECE);
    hall.collect(dates, 4095, from, to);
    long sum = 17;
    for (int k = 0; k < dates.count; k++) {
      sum = 31 * sum + Dates.minuteOf(dates.rowAt(k));
      sum = 31 * sum + Dates.numberOf(dates.rowAt(k));
    }
    return sum;
  }

  public int errors() {
    int wrong = 0;
    for (int k = 0; k < ALL_SERIES; k++) {
      Series one = hall.anySeries(k);
      if (one.isThere && !one.rule.isRight()) wrong++;
    }
    for (int k = 0; k < ZONES; k++) if (!hall.anyZone(k).isRight()) wrong++;
    return wrong;
  }

  // ---- what calls need, and parts of calls.

  private static void needRange(int number, int least, int most) {
    if (number < least || number > most) throw new IllegalArgumentException();
  }

  private static void needDay(int day) {
    if (day < FIRST_DAY || day > LAST_DAY) throw new IllegalArgumentException();
  }

  private static void needMinute(int minute) {
    if (minute < FIRST_MINUTE || minute > LAST_MINUTE) throw new IllegalArgumentException();
  }

  private static void needPiece(int from, int to, int longest) {
    needMinute(from);
    needMinute(to);
    if (to <= from || to - from > longest) throw new IllegalArgumentException();
  }

  private Zone zoneNumbered(int zone) {
    if (zone < 0 || zone >= ZONES) throw new IndexOutOfBoundsException();
    return hall.anyZone(zone);
  }

  private Person personNumbered(int person) {
    if (person < 0 || person >= PEOPLE) throw new IndexOutOfBoundsException();
    return hall.anyPerson(person);
  }

  private Series seriesNumbered(int series) {
    if (series < 0 || series >= ALL_SERIES || !hall.anySeries(series).isThere) throw new IndexOutOfBoundsException();
    return hall.anySeries(series);
  }

  private Device deviceNumbered(int device) {
    if (device < 0 || device >= DEVICES) throw new IndexOutOfBoundsException();
    return hall.anyDevice(device);
  }

  private void saveForUndo() {
    Hall row = savedNext >= 0 && savedNext < saved.length ? saved[savedNext] : null;
    if (row != null) row.copyFrom(hall);
    savedNext = savedNext + 1 < UNDOS ? savedNext + 1 : 0;
    if (savedCount < UNDOS) savedCount++;
  }

  private int countMinutes(Person one, int from, int to, int which) {
    Zone zone = hall.anyZone(one.zone);
    int count = 0;
    int at = from;
    // Each turn goes on by a minute at least.
    for (int turn = 0; turn <= TWO_WEEK_PIECE && at < to; turn++) {
      int begin = which == 1 ? at : dates.onFrom(at);
      if (which != 0) begin = Math.max(begin, one.workFrom(zone, at, to));
      if (begin == at) {
        int end = which == 1 ? to : Math.min(to, dates.offFrom(at));
        if (which != 0) end = Math.min(end, one.idleFrom(zone, at, to));
        count += end - at;
        begin = end;
      }
      at = begin;
    }
    return count;
  }

  /** The minute itself if the minutes from it on are free of dates, otherwise one behind it ahead of which there is no such. */
  private int behindBusy(int at, int length) {
    int busy = dates.onFrom(at);
    return busy < at + length ? dates.offFrom(busy) : at;
  }

  /** The same for minutes that are no work minutes of some of the people. */
  private int behindIdle(int people, int at, int length, int to) {
    for (int person = 0; person < PEOPLE; person++) {
      if ((people >> person & 1) == 0) continue;
      Person one = hall.anyPerson(person);
      Zone zone = hall.anyZone(one.zone);
      int idle = one.idleFrom(zone, at, to);
      if (idle < at + length) return one.workFrom(zone, idle, to);
    }
    return at;
  }

  /** Adds what each time of a meeting costs for a person whose dates were collected. */
  private void addCosts(Person one, int from, int to, int length, int tries) {
    Zone zone = hall.anyZone(one.zone);
    int busy = from;
    int free = from;
    int idle = from;
    int work = from;
    for (int k = 0; k < tries && k < costs.length; k++) {
      int at = from + 15 * k;
      if (free <= at) {
        busy = dates.onFrom(at);
        free = dates.offFrom(busy);
      }
      if (work <= at) {
        idle = one.idleFrom(zone, at, to);
        work = one.workFrom(zone, idle, to);
      }
      if (busy < at + length) costs[k] += 3;
      else if (idle < at + length) costs[k] += 1;
    }
  }

  /** The calendar: days from the 1st of January 2000, months from the January of 2000, both from 0. */
  static final class Days {
    private static final int CYCLE_DAYS = 146097, CYCLE_MONTHS = 4800;

    // The first two functions reckon in years that begin with a March, so that the leap day is the
    // last one; the first such year begins with the day 60.

    static int monthOf(int day) {
      int inCycle = (day - 60 + CYCLE_DAYS) % CYCLE_DAYS;
      int year = (inCycle - inCycle / 1460 + inCycle / 36524 - inCycle / 146096) / 365;
      int inYear = inCycle - (365 * year + year / 4 - year / 100);
      int month = (5 * inYear + 2) / 153;
      return (year * 12 + month + 2) % CYCLE_MONTHS;
    }

    static int monthBegin(int month) {
      int fromMarch = (month - 2 + CYCLE_MONTHS) % CYCLE_MONTHS;
      int year = fromMarch / 12;
      int inYear = (153 * (fromMarch % 12) + 2) / 5;
      return (365 * year + year / 4 - year / 100 + inYear + 60) % CYCLE_DAYS;
    }

    static int monthLength(int month) {
      int name = month % 12 + 1;
      int year = month / 12;
      if (name != 2) return name == 4 || name == 6 || name == 9 || name == 11 ? 30 : 31;
      return year % 4 == 0 && (year % 100 != 0 || year % 400 == 0) ? 29 : 28;
    }

    static int weekdayOf(int day) {
      return (day + 5) % 7;
    }

    static int weekOf(int day) {
      return (day + 5) / 7;
    }

    /** The Monday of a week. */
    static int weekBegin(int week) {
      return week * 7 - 5;
    }
  }

  /** A zone: its clocks and its switches. A switch is a row of month, place, weekday and minute. */
  static final class Zone {
    private static final int LAST_PLACE = 5;

    int offset;
    int shift;
    private final int[] forth = {3, LAST_PLACE, 6, 120};
    private final int[] back = {10, LAST_PLACE, 6, 120};

    void copyFrom(Zone other) {
      offset = other.offset;
      shift = other.shift;
      System.arraycopy(other.forth, 0, forth, 0, forth.length);
      System.arraycopy(other.back, 0, back, 0, back.length);
    }

    void putSwitch(boolean isForth, int month, int place, int weekday, int minute) {
      int[] row = isForth ? forth : back;
      row[0] = month;
      row[1] = place;
      row[2] = weekday;
      row[3] = minute;
    }

    int switchMonth(boolean isForth) {
      return isForth ? forth[0] : back[0];
    }

    int localOf(int common) {
      int standard = common + offset;
      return isSummer(standard) ? standard + shift : standard;
    }

    /** The common minute of a local minute, also of one that no common minute tells. */
    int commonOf(int local) {
      return isSummer(local - shift) ? local - shift - offset : local - offset;
    }

    /** The first common minute that tells a local minute. */
    int firstOf(int local) {
      if (isSummer(local - shift)) return local - shift - offset;
      return isSummer(local) ? NONE : local - offset;
    }

    /** The second one; there is none but where the clock goes back. */
    int secondOf(int local) {
      return isSummer(local - shift) && !isSummer(local) ? local - offset : NONE;
    }

    boolean isSummer(int standard) {
      if (shift == 0) return false;
      int month = Days.monthOf(Math.floorDiv(standard, DAY));
      int name = month % 12 + 1;
      if (name == forth[0]) return standard >= switchIn(month, forth);
      if (name == back[0]) return standard < switchIn(month, back);
      boolean isBetween = name > Math.min(forth[0], back[0]) && name < Math.max(forth[0], back[0]);
      return isBetween == forth[0] < back[0];
    }

    /** The minute of a switch in a month, by the standard clock. */
    private static int switchIn(int month, int[] row) {
      if (row.length < 4) return FAR;
      int begin = Days.monthBegin(month);
      int day = begin + Math.floorMod(row[2] - begin - 5, 7) + 7 * (row[1] - 1);
      if (day >= begin + Days.monthLength(month)) day -= 7;
      return day * DAY + row[3];
    }

    /** The next common minute at which summer begins or ends, if it is in this month or the next one, otherwise FAR. */
    int nextSwitch(int common) {
      if (shift == 0) return FAR;
      int standard = common + offset;
      int month = Days.monthOf(Math.floorDiv(standard, DAY));
      for (int k = 0; k < 2; k++) {
        int name = (month + k) % 12 + 1;
        int minute = FAR;
        if (name == forth[0]) minute = switchIn(month + k, forth);
        else if (name == back[0]) minute = switchIn(month + k, back);
        if (minute > standard && minute < FAR) return minute - offset;
      }
      return FAR;
    }

    /** Whether common minutes are told back from their local minutes. */
    boolean isRight() {
      for (int k = 0; k <= 730; k++) {
        int common = FIRST_MINUTE + DAY * k + 120;
        int local = localOf(common);
        if (firstOf(local) != common && secondOf(local) != common) return false;
      }
      return true;
    }
  }

  /** A person: zone and work hours. */
  static final class Person {
    int zone;
    private int days = 31;
    private int from = 540;
    private int to = 1020;

    void copyFrom(Person other) {
      put(other.zone, other.days, other.from, other.to);
    }

    void put(int newZone, int newDays, int newFrom, int newTo) {
      zone = newZone;
      days = newDays;
      from = newFrom;
      to = newTo;
    }

    private boolean isWorkDay(int day) {
      return (days >> Days.weekdayOf(day) & 1) == 1;
    }

    /** The first work minute from one minute on and ahead of another one; that other one without any. */
    int workFrom(Zone own, int minute, int end) {
      int at = minute;
      for (int turn = 0; turn <= TWO_WEEK_PIECE && at < end; turn++) {
        int local = own.localOf(at);
        int inDay = Math.floorMod(local, DAY);
        if (inDay >= from && inDay < to && isWorkDay(Math.floorDiv(local, DAY))) return at;
        // Nothing begins ahead of this minute of the day, or of the next day, unless the clock is switched.
        int edge = inDay < from ? from : DAY;
        at = Math.min(at + edge - inDay, own.nextSwitch(at));
      }
      return end;
    }

    /** The first minute that is no work minute, in the same way. */
    int idleFrom(Zone own, int minute, int end) {
      int at = minute;
      for (int turn = 0; turn <= TWO_WEEK_PIECE && at < end; turn++) {
        int local = own.localOf(at);
        int inDay = Math.floorMod(local, DAY);
        if (inDay < from || inDay >= to || !isWorkDay(Math.floorDiv(local, DAY))) return at;
        at = Math.min(at + to - inDay, own.nextSwitch(at));
      }
      return end;
    }
  }

  /** The rule of a series with its first day and its end. */
  static final class Rule {
    int first = FIRST_DAY;
    int kind;
    int step;
    int days;
    int place;
    int how;
    int number;
    /** The last day by the end; that of a count is found when the rule is set, and not at each call. */
    private int last = LAST_DAY;

    static boolean isSound(int kind, int step, int days, int place) {
      if (kind < ONCE || kind > YEARS) return false;
      boolean isStep = kind == ONCE ? step == 0 : step >= 1 && step <= 99;
      boolean isSet = kind == WEEKS || kind == SETS ? days >= 1 && days <= 127 : days == 0;
      int most = kind == MONTHS ? 31 : kind == SETS ? 5 : 0;
      boolean isPlace = place >= -most && place <= most && (place == 0) == (most == 0);
      return isStep && isSet && isPlace;
    }

    void put(int newKind, int newStep, int newDays, int newPlace) {
      kind = newKind;
      step = newStep;
      days = newDays;
      place = newPlace;
    }

    void copyFrom(Rule other) {
      put(other.kind, other.step, other.days, other.place);
      putEnd(other.how, other.number);
      first = other.first;
      last = other.last;
    }

    /** Finds the last day anew: to be called when the first day, the rule or the end was set. */
    void settle() {
      last = how == BY_LAST_DAY ? number : LAST_DAY;
      if (how != BY_COUNT) return;
      int day = dayByPlace(number - 1);
      if (day != NONE) last = day;
    }

    /** Makes one of the days the first one; of a count what is left of it stays, so the last day stays too. */
    void beginAt(int day) {
      if (how == BY_COUNT) number -= count(first, day - 1);
      first = day;
    }

    void putEnd(int newHow, int newNumber) {
      how = newHow;
      number = newNumber;
    }

    /** How many months one step goes on; 1 where no months are stepped. */
    private int monthStep() {
      return Math.max(1, kind == YEARS ? 12 * step : step);
    }

    boolean isDay(int day) {
      return day >= first && day <= last && holds(day);
    }

    /** Whether the conditions of the rule hold of a day, the end apart. */
    private boolean holds(int day) {
      if (day < first || kind == ONCE || step < 1) return day == first;
      if (kind == DAYS) return (day - first) % step == 0;
      boolean isInSet = (days >> Days.weekdayOf(day) & 1) == 1;
      if (kind == WEEKS) return isInSet && (Days.weekOf(day) - Days.weekOf(first)) % step == 0;
      int month = Days.monthOf(day);
      int firstMonth = Days.monthOf(first);
      int stride = monthStep();
      if (stride < 1 || (month - firstMonth) % stride != 0) return false;
      int ahead = day - Days.monthBegin(month);
      int behind = Days.monthLength(month) - 1 - ahead;
      if (kind == YEARS) return ahead == first - Days.monthBegin(firstMonth);
      if (kind == MONTHS) return place > 0 ? ahead + 1 == place : behind + 1 == -place;
      return isInSet && (place > 0 ? placeInSet(day, ahead, -1) == place : placeInSet(day, behind, 1) == -place);
    }

    /** Which one of the set a day is in its month, with so many days on the one side of it. */
    private int placeInSet(int day, int others, int way) {
      int found = others / 7 * Integer.bitCount(days);
      for (int k = 0; k <= others % 7; k++) {
        if ((days >> Days.weekdayOf(day + way * k) & 1) == 1) found++;
      }
      return found;
    }

    /** The first day that is not before a day, by rule and end. */
    int next(int day) {
      int from = Math.max(day, first);
      if (from > last) return NONE;
      int found;
      if (kind == ONCE || step < 1) found = from == first ? first : NONE;
      else if (kind == DAYS) found = from + Math.floorMod(first - from, step);
      else if (kind == WEEKS) found = nextByWeeks(from);
      else found = nextByMonths(from);
      return found > last ? NONE : found;
    }

    private int nextByWeeks(int from) {
      int week = Days.weekOf(from);
      int wait = step < 1 ? 0 : Math.floorMod(Days.weekOf(first) - week, step);
      int day = wait == 0 ? from : Days.weekBegin(week + wait);
      for (int k = Days.weekdayOf(day); k < 7; k++) {
        if ((days >> k & 1) == 1) return day + k - Days.weekdayOf(day);
      }
      day = Days.weekBegin(week + wait + (wait == 0 ? step : 0));
      for (int k = 0; k < 7; k++) {
        if ((days >> k & 1) == 1) return day + k;
      }
      return NONE;
    }

    private int nextByMonths(int from) {
      int stride = monthStep();
      int month = Days.monthOf(from);
      int firstMonth = Days.monthOf(first);
      int lastMonth = Days.monthOf(last);
      if (stride < 1) return NONE;
      for (int at = month + Math.floorMod(firstMonth - month, stride); at <= lastMonth; at += stride) {
        int day = dayInMonth(at);
        if (day >= from) return day;
      }
      return NONE;
    }

    /** The day of the rule in one of its months. */
    private int dayInMonth(int month) {
      int begin = Days.monthBegin(month);
      int length = Days.monthLength(month);
      if (kind == SETS) return dayOfSet(begin, length);
      int ahead = place - 1;
      if (kind == YEARS) ahead = first - Days.monthBegin(Days.monthOf(first));
      else if (place < 0) ahead = length + place;
      return ahead >= 0 && ahead < length ? begin + ahead : NONE;
    }

    private int dayOfSet(int begin, int length) {
      int each = Integer.bitCount(days & 127);
      if (each < 1) return NONE;
      int others = Math.abs(place) - 1;
      int more = others % each;
      int edge = place > 0 ? begin : begin + length - 1;
      for (int k = others / each * 7; k < length; k++) {
        int day = place > 0 ? edge + k : edge - k;
        if ((days >> Days.weekdayOf(day) & 1) == 1) {
          if (more == 0) return day;
          more--;
        }
      }
      return NONE;
    }

    int count(int from, int to) {
      int least = Math.max(from, first);
      int most = Math.min(to, last);
      if (least > most) return 0;
      if (kind == ONCE || step < 1) return least == first ? 1 : 0;
      if (kind == DAYS) return Math.floorDiv(most - first, step) - Math.floorDiv(least - 1 - first, step);
      if (kind == WEEKS) return countByWeeks(most) - countByWeeks(least - 1);
      return countByMonths(least, most);
    }

    /** The days up to a day. */
    private int countByWeeks(int day) {
      if (day < first || step < 1) return 0;
      int weeks = Days.weekOf(day) - Days.weekOf(first);
      int whole = (weeks + step - 1) / step;
      int part = weeks % step == 0 ? (2 << Days.weekdayOf(day)) - 1 : 0;
      int before = (1 << Days.weekdayOf(first)) - 1;
      return whole * Integer.bitCount(days) + Integer.bitCount(days & part) - Integer.bitCount(days & before);
    }

    private int countByMonths(int from, int to) {
      int stride = monthStep();
      int month = Days.monthOf(from);
      int lastMonth = Days.monthOf(to);
      int count = 0;
      if (stride < 1) return 0;
      for (int at = month + Math.floorMod(Days.monthOf(first) - month, stride); at <= lastMonth; at += stride) {
        int day = dayInMonth(at);
        if (day >= from && day <= to) count++;
      }
      return count;
    }

    int dayByPlace(int wanted) {
      int day = next(first);
      for (int k = 0; k < wanted && day != NONE; k++) day = next(day + 1);
      return day;
    }

    /** Whether next() tells the days of which rule and end hold, of the 800 days from the first one on. */
    boolean isRight() {
      int told = next(first);
      int found = 0;
      for (int day = first; day <= LAST_DAY && day < first + 800; day++) {
        boolean isOne = holds(day);
        if (isOne) found++;
        if (how == BY_COUNT && found > number || how == BY_LAST_DAY && day > number) isOne = false;
        if (isOne != (told == day)) return false;
        if (isOne) told = next(day + 1);
      }
      return true;
    }

    void writeTo(StringBuilder out) {
      if (kind == ONCE) {
        out.append("once");
      } else {
        out.append("every ");
        if (step != 1) {
          out.append(step);
          out.append(' ');
        }
        writeUnit(out);
      }
      if (how == NO_END) return;
      out.append(how == BY_COUNT ? " for " : " until ");
      out.append(number);
    }

    private void writeUnit(StringBuilder out) {
      if (kind == DAYS) out.append("days");
      else if (kind == WEEKS) out.append("weeks on");
      else if (kind == YEARS) out.append("years");
      else writePlace(out);
      for (int k = 0; k < 7; k++) {
        if ((days >> k & 1) == 0) continue;
        out.append(' ');
        out.append(Reader.DAY_NAMES.charAt(2 * k));
        out.append(Reader.DAY_NAMES.charAt(2 * k + 1));
      }
    }

    private void writePlace(StringBuilder out) {
      out.append("months on ");
      if (place == -1) {
        out.append("last");
      } else if (place < 0) {
        out.append("end ");
        out.append(-place);
      } else if (kind == SETS) {
        out.append(Reader.ordinal(place));
      } else {
        out.append(place);
      }
    }
  }

  /** A series: its rule, its exceptions, and what its people say of it. */
  static final class Series {
    boolean isThere;
    int zone;
    int minute;
    int length;
    int people;
    boolean needsRoom;
    final Rule rule = new Rule();
    int exceptions;
    private final int[] exceptionDays = new int[EXCEPTIONS];
    /** The local minute that a day is moved to; NONE if it is left out. */
    private final int[] exceptionTos = new int[EXCEPTIONS];
    private final int[] answers = new int[PEOPLE];
    private final int[] counters = new int[PEOPLE];

    void copyFrom(Series other) {
      isThere = other.isThere;
      zone = other.zone;
      minute = other.minute;
      length = other.length;
      people = other.people;
      needsRoom = other.needsRoom;
      rule.copyFrom(other.rule);
      exceptions = other.exceptions;
      System.arraycopy(other.exceptionDays, 0, exceptionDays, 0, EXCEPTIONS);
      System.arraycopy(other.exceptionTos, 0, exceptionTos, 0, EXCEPTIONS);
      System.arraycopy(other.answers, 0, answers, 0, PEOPLE);
      System.arraycopy(other.counters, 0, counters, 0, PEOPLE);
    }

    /** Begins anew as a series of one day that nobody said anything of. */
    void start(int newZone, int day) {
      isThere = true;
      zone = newZone;
      rule.put(ONCE, 0, 0, 0);
      rule.putEnd(NO_END, 0);
      rule.first = day;
      exceptions = 0;
      forgetAnswers();
    }

    int tell(int what) {
      switch (what) {
        case 0: return zone;
        case 1: return rule.first;
        case 2: return minute;
        case 3: return length;
        case 4: return people;
        case 5: return needsRoom ? 1 : 0;
        case 6: return rule.kind;
        case 7: return rule.step;
        case 8: return rule.days;
        case 9: return rule.place;
        case 10: return rule.how;
        case 11: return rule.number;
        default: return exceptions;
      }
    }

    // -- people

    boolean isInvited(int person) {
      return (people >> person & 1) == 1;
    }

    int answerBy(int person) {
      return person >= 0 && person < answers.length ? answers[person] : NOT_YET;
    }

    int counterBy(int person) {
      return person >= 0 && person < counters.length ? counters[person] : NONE;
    }

    void putAnswer(int person, int answer) {
      if (person >= 0 && person < answers.length) answers[person] = answer;
    }

    void putCounter(int person, int newMinute) {
      if (person >= 0 && person < counters.length) counters[person] = newMinute;
    }

    int countCounters() {
      int count = 0;
      for (int k = 0; k < counters.length; k++) if (counters[k] != NONE) count++;
      return count;
    }

    void forgetAnswers() {
      for (int k = 0; k < PEOPLE; k++) {
        putAnswer(k, NOT_YET);
        putCounter(k, NONE);
      }
    }

    /** Has other people from now on; what those said who are not among them goes. */
    void invite(int newPeople) {
      people = newPeople;
      for (int k = 0; k < PEOPLE; k++) {
        if (isInvited(k)) continue;
        putAnswer(k, NOT_YET);
        putCounter(k, NONE);
      }
    }

    /** Those who take part in the dates, as bits. */
    int takers() {
      int bits = people;
      for (int k = 0; k < answers.length; k++) if (answers[k] == NO) bits &= ~(1 << k);
      return bits;
    }

    // -- exceptions

    /** The place of the exception of a day; NONE without one. */
    int exceptionOf(int day) {
      for (int k = 0; k < exceptions && k < exceptionDays.length; k++) if (exceptionDays[k] == day) return k;
      return NONE;
    }

    boolean hasPlaceFor(int day) {
      return exceptions < EXCEPTIONS || exceptionOf(day) != NONE;
    }

    /** Moves a day to a local minute, or leaves it out (NONE). */
    void except(int day, int to) {
      int place = exceptionOf(day);
      if (place == NONE) place = exceptions;
      if (place < 0 || place >= exceptionDays.length || place >= exceptionTos.length) return;
      if (place == exceptions) exceptions++;
      exceptionDays[place] = day;
      exceptionTos[place] = to;
    }

    void dropException(int place) {
      int last = exceptions - 1;
      if (place < 0 || place > last || last >= exceptionDays.length || last >= exceptionTos.length) return;
      exceptionDays[place] = exceptionDays[last];
      exceptionTos[place] = exceptionTos[last];
      exceptions = last;
    }

    void keepExceptions(int from, int to) {
      for (int k = Math.min(exceptions, exceptionDays.length) - 1; k >= 0; k--) {
        if (exceptionDays[k] < from || exceptionDays[k] > to) dropException(k);
      }
    }

    private int exceptionTo(int place) {
      return place >= 0 && place < exceptionTos.length ? exceptionTos[place] : NONE;
    }

    private int exceptionDay(int place) {
      return place >= 0 && place < exceptionDays.length ? exceptionDays[place] : NONE;
    }

    // -- dates

    /** The begin of the date of a day; NONE if it is left out. */
    int beginOf(Zone own, int day) {
      int place = exceptionOf(day);
      if (place == NONE) return own.commonOf(day * DAY + minute);
      int to = exceptionTo(place);
      return to == NONE ? NONE : own.commonOf(to);
    }

    /** A day ahead of which no date that is not moved begins at a minute or behind it; two days behind it all do. */
    private int earliestDay(Zone own, int common) {
      return (common + own.offset - minute) / DAY;
    }

    /** The first day of the calendar on which a date that is not moved begins at a minute or behind it. */
    private int firstDayFrom(Zone own, int common) {
      int day = earliestDay(own, common);
      for (int k = 0; k < 2 && own.commonOf(day * DAY + minute) < common; k++) day++;
      return day;
    }

    /** The first date that does not begin before a minute, as a row without a number; NONE without one. */
    long firstRow(Zone own, int common) {
      long row = NONE;
      int day = rule.next(earliestDay(own, common));
      for (int turn = 0; turn <= EXCEPTIONS + 2 && day != NONE && row == NONE; turn++) {
        int begin = own.commonOf(day * DAY + minute);
        if (begin >= common && exceptionOf(day) == NONE) row = Dates.row(begin, 0, day, 0);
        day = rule.next(day + 1);
      }
      for (int k = 0; k < exceptions; k++) {
        if (exceptionTo(k) == NONE) continue;
        int begin = own.commonOf(exceptionTo(k));
        long other = Dates.row(begin, 0, exceptionDay(k), 0);
        if (begin >= common && (row == NONE || other < row)) row = other;
      }
      return row;
    }

    /** How many dates begin from one minute on and ahead of another one. */
    int countBegins(Zone own, int from, int to) {
      int least = firstDayFrom(own, from);
      int most = firstDayFrom(own, to) - 1;
      int count = rule.count(least, most);
      for (int k = 0; k < exceptions; k++) {
        if (exceptionDay(k) >= least && exceptionDay(k) <= most) count--;
        if (exceptionTo(k) == NONE) continue;
        int begin = own.commonOf(exceptionTo(k));
        if (begin >= from && begin < to) count++;
      }
      return count;
    }

    /** Adds the dates that begin so many minutes behind the minutes of a piece; the rows tell the minutes of the piece. */
    void addRows(Dates into, int number, int ahead, Zone own, int from, int to) {
      into.putLength(number, length);
      int day = rule.next(earliestDay(own, from + ahead));
      for (int turn = 0; turn < 1000 && day != NONE; turn++) {
        int begin = own.commonOf(day * DAY + minute) - ahead;
        if (begin >= to) break;
        if (begin >= from && exceptionOf(day) == NONE) into.add(Dates.row(begin, number, day, 0));
        day = rule.next(day + 1);
      }
      for (int k = 0; k < exceptions; k++) {
        if (exceptionTo(k) == NONE) continue;
        int begin = own.commonOf(exceptionTo(k)) - ahead;
        if (begin >= from && begin < to) into.add(Dates.row(begin, number, exceptionDay(k), 0));
      }
    }
  }

  /** A device: the changes that were made on it, and what it shows. */
  static final class Device {
    int clock;
    int count;
    private final int[] places = new int[CHANGES];
    private final int[] values = new int[CHANGES];
    private final int[] clocks = new int[CHANGES];
    private final int[] shownValues = new int[NUMBERS * FIELDS];
    private final int[] shownClocks = new int[NUMBERS * FIELDS];
    private final int[] shownMakers = new int[NUMBERS * FIELDS];

    Device() {
      for (int k = 0; k < shownValues.length; k++) shownValues[k] = NONE;
    }

    void copyFrom(Device other) {
      clock = other.clock;
      count = other.count;
      System.arraycopy(other.places, 0, places, 0, CHANGES);
      System.arraycopy(other.values, 0, values, 0, CHANGES);
      System.arraycopy(other.clocks, 0, clocks, 0, CHANGES);
      System.arraycopy(other.shownValues, 0, shownValues, 0, NUMBERS * FIELDS);
      System.arraycopy(other.shownClocks, 0, shownClocks, 0, NUMBERS * FIELDS);
      System.arraycopy(other.shownMakers, 0, shownMakers, 0, NUMBERS * FIELDS);
    }

    int valueAt(int place) {
      return place >= 0 && place < shownValues.length ? shownValues[place] : NONE;
    }

    void make(int maker, int place, int value) {
      if (count < 0 || count >= CHANGES) return;
      clock++;
      places[count] = place;
      values[count] = value;
      clocks[count] = clock;
      count++;
      show(maker, place, value, clock);
    }

    /** Takes a change that was made on the other device. */
    void receive(Device other, int maker, int change) {
      if (change < 0 || change >= CHANGES) return;
      clock = Math.max(clock, other.clocks[change]);
      show(maker, other.places[change], other.values[change], other.clocks[change]);
    }

    private void show(int maker, int place, int value, int newClock) {
      if (place < 0 || place >= NUMBERS * FIELDS) return;
      if (newClock < shownClocks[place]) return;
      if (newClock == shownClocks[place] && maker < shownMakers[place]) return;
      shownValues[place] = value;
      shownClocks[place] = newClock;
      shownMakers[place] = maker;
    }
  }

  /** All that a change can change and undo() brings back. */
  static final class Hall {
    private final Zone[] zones = new Zone[ZONES];
    private final Person[] people = new Person[PEOPLE];
    final int[] buildings = {0, 1, 2, 3};
    private final Series[] series = new Series[ALL_SERIES];
    private final Device[] devices = new Device[DEVICES];
    int clock = FIRST_MINUTE;
    private final int[] reminderSeries = new int[REMINDERS];
    private final int[] reminderAheads = new int[REMINDERS];
    private final long[] rings = new long[RINGS];
    int ringCount;
    private final long[] snoozes = new long[SNOOZES];
    int snoozeCount;

    Hall() {
      for (int k = 0; k < zones.length; k++) zones[k] = new Zone();
      for (int k = 0; k < people.length; k++) people[k] = new Person();
      for (int k = 0; k < series.length; k++) series[k] = new Series();
      for (int k = 0; k < devices.length; k++) devices[k] = new Device();
      for (int k = 0; k < reminderSeries.length; k++) reminderSeries[k] = NONE;
    }

    void copyFrom(Hall other) {
      for (int k = 0; k < ZONES; k++) anyZone(k).copyFrom(other.anyZone(k));
      for (int k = 0; k < PEOPLE; k++) anyPerson(k).copyFrom(other.anyPerson(k));
      for (int k = 0; k < ALL_SERIES; k++) anySeries(k).copyFrom(other.anySeries(k));
      for (int k = 0; k < DEVICES; k++) anyDevice(k).copyFrom(other.anyDevice(k));
      System.arraycopy(other.buildings, 0, buildings, 0, ROOMS);
      clock = other.clock;
      System.arraycopy(other.reminderSeries, 0, reminderSeries, 0, REMINDERS);
      System.arraycopy(other.reminderAheads, 0, reminderAheads, 0, REMINDERS);
      System.arraycopy(other.rings, 0, rings, 0, RINGS);
      ringCount = other.ringCount;
      System.arraycopy(other.snoozes, 0, snoozes, 0, SNOOZES);
      snoozeCount = other.snoozeCount;
    }

    // -- what has a number; a number that nothing has is taken as 0

    Zone anyZone(int number) {
      return zones[number >= 0 && number < zones.length ? number : 0];
    }

    Person anyPerson(int number) {
      return people[number >= 0 && number < people.length ? number : 0];
    }

    Series anySeries(int number) {
      return series[number >= 0 && number < series.length ? number : 0];
    }

    Device anyDevice(int number) {
      return devices[number >= 0 && number < devices.length ? number : 0];
    }

    Zone zoneOf(Series one) {
      return anyZone(one.zone);
    }

    int buildingOf(int room) {
      return room >= 0 && room < buildings.length ? buildings[room] : 0;
    }

    // -- series

    int freeSeries() {
      for (int k = 0; k < series.length; k++) if (!series[k].isThere) return k;
      return NONE;
    }

    int countSeries() {
      int count = 0;
      for (int k = 0; k < series.length; k++) if (series[k].isThere) count++;
      return count;
    }

    /** The series in whose dates one of some people takes part, as bits. */
    int seriesOf(int bits) {
      int mask = 0;
      for (int k = 0; k < series.length; k++) {
        if (series[k].isThere && (series[k].takers() & bits) != 0) mask |= 1 << k;
      }
      return mask;
    }

    int seriesWithRoom() {
      int mask = 0;
      for (int k = 0; k < series.length; k++) {
        if (series[k].isThere && series[k].needsRoom) mask |= 1 << k;
      }
      return mask;
    }

    /** The dates of some series that begin in a piece. */
    void collect(Dates into, int mask, int from, int to) {
      into.clear();
      for (int k = 0; k < series.length; k++) {
        if (series[k].isThere && (mask >> k & 1) == 1) series[k].addRows(into, k, 0, zoneOf(series[k]), from, to);
      }
    }

    /** The dates of some series that are on at some minute of a piece. */
    void collectOn(Dates into, int mask, int from, int to) {
      into.clear();
      for (int k = 0; k < series.length; k++) {
        if (!series[k].isThere || (mask >> k & 1) == 0) continue;
        series[k].addRows(into, k, 0, zoneOf(series[k]), from - series[k].length + 1, to);
      }
    }

    // -- reminders and rings

    boolean isReminder(int number) {
      return number >= 0 && number < reminderSeries.length && reminderSeries[number] != NONE;
    }

    int freeReminder() {
      for (int k = 0; k < reminderSeries.length; k++) if (reminderSeries[k] == NONE) return k;
      return NONE;
    }

    int countReminders() {
      int count = 0;
      for (int k = 0; k < reminderSeries.length; k++) if (reminderSeries[k] != NONE) count++;
      return count;
    }

    /** Has a reminder for a series from now on; for NONE there is no such reminder. */
    void putReminder(int number, int forSeries, int ahead) {
      if (number < 0 || number >= reminderSeries.length || number >= reminderAheads.length) return;
      reminderSeries[number] = forSeries;
      reminderAheads[number] = ahead;
    }

    /** The rings of reminders behind the clock, up to a minute. */
    void collectRings(Dates into, int until) {
      for (int k = 0; k < reminderSeries.length && k < reminderAheads.length; k++) {
        if (reminderSeries[k] == NONE) continue;
        Series one = anySeries(reminderSeries[k]);
        if (one.isThere) one.addRows(into, k, reminderAheads[k], zoneOf(one), clock + 1, until + 1);
      }
    }

    /** Takes the snoozed rings up to a minute away. */
    void takeSnoozes(Dates into, int until) {
      int left = 0;
      for (int k = 0; k < snoozeCount && k < snoozes.length; k++) {
        long row = snoozes[k];
        if (Dates.minuteOf(row) <= until) {
          into.add(row);
        } else if (left < snoozes.length) {
          snoozes[left] = row;
          left++;
        }
      }
      snoozeCount = left;
    }

    void addSnooze(long row) {
      if (snoozeCount < 0 || snoozeCount >= snoozes.length) return;
      snoozes[snoozeCount] = row;
      snoozeCount++;
    }

    void keepRing(long row) {
      if (ringCount >= RINGS) {
        System.arraycopy(rings, 1, rings, 0, RINGS - 1);
        ringCount = RINGS - 1;
      }
      if (ringCount < 0) return;
      rings[ringCount] = row;
      ringCount++;
    }

    long ringNumbered(int number) {
      return number >= 0 && number < rings.length ? rings[number] : 0;
    }

    int ringBehindClock(int number) {
      if (!isReminder(number) || number >= reminderAheads.length) return NONE;
      Series one = anySeries(reminderSeries[number]);
      if (!one.isThere) return NONE;
      int ahead = reminderAheads[number];
      long row = one.firstRow(zoneOf(one), clock + 1 + ahead);
      return row == NONE ? NONE : Dates.minuteOf(row) - ahead;
    }
  }

  /**
   * Dates or rings in their order, each as a row: a long of a minute, a number (of a series or
   * reminder), a day, and a flag, such that the order of the longs is the order of dates and rings.
   */
  static final class Dates {
    /** Of twelve series there are at most 25 dates each in two weeks and a length. */
    private static final int MOST = 320;

    int count;
    private final long[] rows = new long[MOST];
    private final int[] lengths = new int[16];

    static long row(int minute, int number, int day, int flag) {
      return (long) minute << 23 | (long) number << 19 | (long) day << 1 | flag;
    }

    static int minuteOf(long row) {
      return (int) (row >> 23);
    }

    static int numberOf(long row) {
      return (int) (row >> 19) & 15;
    }

    static int dayIn(long row) {
      return (int) (row >> 1) & 262143;
    }

    static int flagOf(long row) {
      return (int) row & 1;
    }

    void clear() {
      count = 0;
    }

    void putLength(int number, int length) {
      lengths[number & 15] = length;
    }

    /** Adds a row at its place in the order. */
    void add(long row) {
      if (count < 0 || count >= MOST) return;
      int low = 0;
      int high = count;
      for (int turn = 0; turn < 32 && low < high; turn++) {
        int middle = (low + high) / 2;
        if (rowAt(middle) <= row) low = middle + 1;
        else high = middle;
      }
      System.arraycopy(rows, low, rows, low + 1, count - low);
      rows[low] = row;
      count++;
    }

    long rowAt(int place) {
      return place >= 0 && place < rows.length ? rows[place] : 0;
    }

    int beginAt(int place) {
      return minuteOf(rowAt(place));
    }

    int lengthAt(int place) {
      return lengths[numberOf(rowAt(place))];
    }

    int endAt(int place) {
      return beginAt(place) + lengthAt(place);
    }

    /** The first minute, not before another one, at which a date is on; FAR without any. */
    int onFrom(int minute) {
      for (int k = 0; k < count; k++) {
        if (endAt(k) > minute) return Math.max(minute, beginAt(k));
      }
      return FAR;
    }

    /** The first minute, not before another one, at which none is on. */
    int offFrom(int minute) {
      int at = minute;
      for (int k = 0; k < count && beginAt(k) <= at; k++) at = Math.max(at, endAt(k));
      return at;
    }

    /** The greatest number of dates that are on at one moment: it is reached at the begin of one. */
    int mostAtOnce() {
      int most = 0;
      for (int k = 0; k < count; k++) {
        int begin = beginAt(k);
        int on = 0;
        for (int j = k; j >= 0 && beginAt(j) + 600 > begin; j--) if (endAt(j) > begin) on++;
        most = Math.max(most, on);
      }
      return most;
    }
  }

  /** The text and its reading. */
  static final class Reader {
    static final String DAY_NAMES = "motuwethfrsasu";
    private static final int WORD = 0, NUMBER = 1, OTHER = 2, END = 3;
    /** Numbers of more digits than all ranges have are taken as this one. */
    private static final int HUGE = 1000000;

    int length;
    /** What was read last. */
    final Rule rule = new Rule();
    private final char[] text = new char[TEXT];
    private int start;
    private int end;
    private int token;
    private int number;

    static String ordinal(int place) {
      switch (place) {
        case 1: return "first";
        case 2: return "second";
        case 3: return "third";
        case 4: return "fourth";
        default: return "fifth";
      }
    }

    void append(int sign) {
      if (length < 0 || length >= text.length) return;
      text[length] = (char) sign;
      length++;
    }

    private char signAt(int place) {
      return place >= 0 && place < length && place < text.length ? text[place] : ' ';
    }

    /** Reads the text into the rule; a last day is not before this one. Tells the place of the error, or NONE. */
    int parse(int leastDay) {
      end = 0;
      rule.put(ONCE, 0, 0, 0);
      rule.putEnd(NO_END, 0);
      goOn();
      return parseKind() && parseEnd(leastDay) && token == END ? NONE : start;
    }

    /** Goes on to the next token. */
    private void goOn() {
      start = end;
      while (start < length && signAt(start) == ' ') start++;
      end = start;
      number = 0;
      char sign = signAt(start);
      if (start >= length) token = END;
      else if (sign >= 'a' && sign <= 'z') token = WORD;
      else if (sign >= '0' && sign <= '9') token = NUMBER;
      else token = OTHER;
      while (token == WORD && end < length && signAt(end) >= 'a' && signAt(end) <= 'z') end++;
      while (token == NUMBER && end < length && signAt(end) >= '0' && signAt(end) <= '9') {
        number = Math.min(number * 10 + signAt(end) - '0', HUGE);
        end++;
      }
    }

    private boolean isWord(String word) {
      if (token != WORD || end - start != word.length()) return false;
      for (int k = 0; k < word.length(); k++) if (signAt(start + k) != word.charAt(k)) return false;
      return true;
    }

    /** Goes on behind the token if it is this word. */
    private boolean takes(String word) {
      if (!isWord(word)) return false;
      goOn();
      return true;
    }

    private boolean isNumber(int least, int most) {
      return token == NUMBER && number >= least && number <= most;
    }

    private boolean parseKind() {
      if (takes("once")) return true;
      if (!takes("every")) return false;
      rule.step = 1;
      if (token == NUMBER) {
        if (!isNumber(1, 99)) return false;
        rule.step = number;
        goOn();
      }
      return parseUnit();
    }

    private boolean parseUnit() {
      if (takes("days")) {
        rule.kind = DAYS;
        return true;
      }
      if (takes("years")) {
        rule.kind = YEARS;
        return true;
      }
      if (takes("weeks")) {
        rule.kind = WEEKS;
        return takes("on") && parseDays();
      }
      return takes("months") && takes("on") && parseWhich();
    }

    private boolean parseWhich() {
      rule.kind = MONTHS;
      if (isNumber(1, 31)) {
        rule.place = number;
        goOn();
        return true;
      }
      if (takes("last")) {
        rule.place = -1;
        if (dayName() == NONE) return true;
      }
      for (int k = 1; k <= 5 && rule.place == 0; k++) if (takes(ordinal(k))) rule.place = k;
      if (rule.place == 0) return false;
      rule.kind = SETS;
      return parseDays();
    }

    private boolean parseDays() {
      int day = dayName();
      for (int k = 0; k < TEXT && day != NONE; k++) {
        rule.days |= 1 << day;
        goOn();
        day = dayName();
      }
      return rule.days != 0;
    }

    /** The weekday that the token names; NONE if it names none. */
    private int dayName() {
      if (token != WORD || end - start != 2) return NONE;
      for (int k = 0; k < 7; k++) {
        if (signAt(start) == DAY_NAMES.charAt(2 * k) && signAt(start + 1) == DAY_NAMES.charAt(2 * k + 1)) return k;
      }
      return NONE;
    }

    private boolean parseEnd(int leastDay) {
      if (token == END) return true;
      if (takes("for")) return parseEndNumber(BY_COUNT, 1, 500);
      return takes("until") && parseEndNumber(BY_LAST_DAY, leastDay, LAST_DAY);
    }

    private boolean parseEndNumber(int how, int least, int most) {
      if (!isNumber(least, most)) return false;
      rule.putEnd(how, number);
      goOn();
      return true;
    }
  }

  /** The rooms that were laid, and the clashes that were found. */
  static final class Meetings {
    /** Of twelve series there are at most 18 dates each in a week. */
    private static final int MOST = 256;
    /** A date meets at most one of each other series' days, but all that are moved may meet each other. */
    private static final int MOST_CLASHES = 9216;
    /** From the lowest to the highest building. */
    private static final int LONGEST_WAY = 45;

    private int laid;
    private final int[] laidSeries = new int[MOST];
    private final int[] laidDays = new int[MOST];
    private final int[] laidRooms = new int[MOST];
    private final int[] roomEnds = new int[ROOMS];
    int clashCount;
    /** The dates of the clashes, and the pairs of them: the place of the first one times MOST, and that of the second one. */
    private final long[] rows = new long[MOST];
    private final int[] rooms = new int[MOST];
    private final int[] pairs = new int[MOST_CLASHES];

    /** Tells how many dates got no room. */
    int lay(Dates dates) {
      for (int k = 0; k < roomEnds.length; k++) roomEnds[k] = 0;
      laid = Math.min(dates.count, MOST);
      int without = 0;
      for (int k = 0; k < laid && k < MOST; k++) {
        laidSeries[k] = Dates.numberOf(dates.rowAt(k));
        laidDays[k] = Dates.dayIn(dates.rowAt(k));
        laidRooms[k] = takeRoom(dates.beginAt(k), dates.endAt(k));
        if (laidRooms[k] == NONE) without++;
      }
      return without;
    }

    private int takeRoom(int begin, int end) {
      for (int k = 0; k < roomEnds.length; k++) {
        if (roomEnds[k] <= begin) {
          roomEnds[k] = end;
          return k;
        }
      }
      return NONE;
    }

    /** The place of a date among those for which rooms were laid; NONE if it is none of them. */
    int placeOf(int series, int day) {
      for (int k = 0; k < laid && k < MOST; k++) if (laidSeries[k] == series && laidDays[k] == day) return k;
      return NONE;
    }

    int roomAt(int place) {
      return place >= 0 && place < laidRooms.length ? laidRooms[place] : NONE;
    }

    int findClashes(Dates dates, Hall hall) {
      int count = Math.min(dates.count, MOST);
      clashCount = 0;
      for (int k = 0; k < count && k < MOST; k++) {
        rows[k] = dates.rowAt(k);
        rooms[k] = roomAt(placeOf(Dates.numberOf(rows[k]), Dates.dayIn(rows[k])));
      }
      for (int k = 0; k < count && k < MOST; k++) {
        int end = dates.endAt(k);
        for (int j = k + 1; j < count && j < MOST; j++) {
          int between = dates.beginAt(j) - end;
          if (between >= LONGEST_WAY) break;
          if (between < 0 || between < way(hall, rooms[k], rooms[j])) keep(k * MOST + j);
        }
      }
      return clashCount;
    }

    private static int way(Hall hall, int room, int other) {
      if (room == NONE || other == NONE) return 0;
      return 5 * Math.abs(hall.buildingOf(room) - hall.buildingOf(other));
    }

    private void keep(int pair) {
      if (clashCount < 0 || clashCount >= pairs.length) return;
      pairs[clashCount] = pair;
      clashCount++;
    }

    /** One of the two dates of a clash. */
    long rowOfClash(int clash, boolean isSecond) {
      if (clash < 0 || clash >= pairs.length) return 0;
      int place = isSecond ? pairs[clash] % MOST : pairs[clash] / MOST;
      return place >= 0 && place < rows.length ? rows[place] : 0;
    }
  }

  /** The plan, and how it is made. */
  static final class Planner {
    static final int MOST = 5;
    /** By how much a date is moved, in the order in which it is tried: the cheapest first. */
    private static final int[] MOVES = {0, -30, 30, -60, 60, -90, 90, -120, 120};

    boolean isKept;
    private int count;
    private final long[] rows = new long[MOST];
    private final int[] lengths = new int[MOST];
    private final int[] takers = new int[MOST];
    private final int[] begins = new int[MOST];
    private final int[] tried = new int[MOST];
    private final int[] choices = new int[MOST];
    private int bestCost;

    int count() {
      return Math.max(0, Math.min(count, MOST));
    }

    int numberAt(int place) {
      return place >= 0 && place < rows.length ? Dates.numberOf(rows[place]) : 0;
    }

    int dayByPlace(int place) {
      return place >= 0 && place < rows.length ? Dates.dayIn(rows[place]) : 0;
    }

    int beginAt(int place) {
      return place >= 0 && place < begins.length ? begins[place] : 0;
    }

    void fill(Dates dates, Hall hall) {
      count = Math.min(dates.count, MOST);
      for (int k = 0; k < count && k < MOST; k++) {
        rows[k] = dates.rowAt(k);
        lengths[k] = dates.lengthAt(k);
        takers[k] = hall.anySeries(Dates.numberOf(rows[k])).takers();
      }
    }

    /** Makes the plan and tells its cost; NONE without one. */
    int search(int from, int to) {
      bestCost = NONE;
      if (count() == 0) bestCost = 0;
      int place = count() == 0 ? NONE : 0;
      int cost = 0;
      choices[0] = 0;
      // Each turn tries one move of one date: there are 9 + 81 + .. + 59049 ones, and as many ways back.
      for (int turn = 0; turn < 200000 && place >= 0 && place < MOST; turn++) {
        int choice = choices[place];
        int move = choice >= 0 && choice < MOVES.length ? MOVES[choice] : FAR;
        if (move == FAR || bestCost != NONE && cost + Math.abs(move) > bestCost) {
          place--;
          if (place >= 0) cost -= Math.abs(tried[place] - Dates.minuteOf(rows[place]));
          continue;
        }
        choices[place] = choice + 1;
        tried[place] = Dates.minuteOf(rows[place]) + move;
        if (tried[place] < from || tried[place] >= to || isHindered(place)) continue;
        if (place == count() - 1) {
          keepTried(cost + Math.abs(move));
        } else if (place + 1 < MOST) {
          cost += Math.abs(move);
          place++;
          choices[place] = 0;
        }
      }
      isKept = bestCost != NONE;
      return bestCost;
    }

    /** Whether a date is on together with one ahead of it in which somebody takes part in both. */
    private boolean isHindered(int place) {
      if (place < 0 || place >= MOST) return true;
      for (int k = 0; k < place; k++) {
        boolean areOn = tried[k] < tried[place] + lengths[place] && tried[place] < tried[k] + lengths[k];
        if (areOn && (takers[k] & takers[place]) != 0) return true;
      }
      return false;
    }

    private void keepTried(int cost) {
      if (bestCost != NONE && cost == bestCost && !isEarlier()) return;
      bestCost = cost;
      System.arraycopy(tried, 0, begins, 0, MOST);
    }

    private boolean isEarlier() {
      for (int k = 0; k < count && k < MOST; k++) {
        if (tried[k] != begins[k]) return tried[k] < begins[k];
      }
      return false;
    }

    /** Whether all dates are still there, and no series gets too many exceptions. */
    boolean canApply(Hall hall) {
      for (int k = 0; k < count(); k++) {
        Series one = hall.anySeries(numberAt(k));
        if (!one.isThere || !one.rule.isDay(dayByPlace(k))) return false;
        if (one.beginOf(hall.zoneOf(one), dayByPlace(k)) == NONE) return false;
        if (one.exceptions + newExceptions(hall, numberAt(k)) > EXCEPTIONS) return false;
      }
      return true;
    }

    private int newExceptions(Hall hall, int number) {
      Series one = hall.anySeries(number);
      int more = 0;
      for (int k = 0; k < count(); k++) {
        if (numberAt(k) != number || one.exceptionOf(dayByPlace(k)) != NONE) continue;
        if (one.beginOf(hall.zoneOf(one), dayByPlace(k)) != beginAt(k)) more++;
      }
      return more;
    }

    /** Moves a date as the plan tells; tells whether it begins at another minute. */
    boolean applyTo(Hall hall, int place) {
      Series one = hall.anySeries(numberAt(place));
      Zone own = hall.zoneOf(one);
      int day = dayByPlace(place);
      if (one.beginOf(own, day) == beginAt(place)) return false;
      one.except(day, own.localOf(beginAt(place)));
      return true;
    }
  }
}
