/** The promises 27 to 65, the calls that change no hall: each of their sentences and lines with a test of its own. */
public final class EdgesOfQuestions extends Sentences {
  public static void main(String[] args) {
    dayOf();
    dayAt();
    toLocal();
    toCommon();
    seriesAt();
    nextDay();
    countDays();
    dayOfSeries();
    begin();
    nextDate();
    countDates();
    answerOf();
    counterOf();
    datesAt();
    minutesOf();
    freeNext();
    best();
    clashes();
    clashAt();
    roomsNeeded();
    layRooms();
    roomOf();
    plan();
    planAt();
    now();
    nextRing();
    rings();
    ringAt();
    shown();
    areAlike();
    type();
    clearText();
    errorPlace();
    write();
    writtenAt();
    busyShare();
    meanLength();
    checksum();
    errors();
    finish("EdgesOfQuestions");
  }

  /** No such number: the call says so, and changes nothing. */
  private static void noneThere(int first, With call) {
    for (int number : new int[] {first, -1, -2, LEAST, MOST}) refused(OUT, () -> full(), x -> call.on(x, number));
  }

  // ---- days, zones

  private static void dayOf() {
    section("Promise 27");
    of("Returns a day.", () -> {
      Calendarhall x = fresh();
      int[][] dates = {{2000, 1, 1}, {2000, 2, 28}, {2000, 2, 29}, {2000, 3, 1}, {2000, 12, 31}, {2001, 1, 1}, {2100, 2, 28}, {2100, 3, 1}, {2399, 12, 31}};
      for (int[] d : dates) due(day(d[0], d[1], d[2]), () -> x.dayOf(d[0], d[1], d[2]));
    });
    of("- `year`: 2000 to 2399", () -> range(2000, 2399, BAD, () -> full(), (x, year) -> x.dayOf(year, 1, 1)));
    of("- `month`: 1 to 12", () -> range(1, 12, BAD, () -> full(), (x, month) -> x.dayOf(2000, month, 1)));
    of("- `number`: the day of the month", () -> {
      for (int number : new int[] {LEAST, -1, 0, 32, MOST}) due(NONE, () -> fresh().dayOf(2001, 1, number));
      due(366, () -> fresh().dayOf(2001, 1, 1));
      due(396, () -> fresh().dayOf(2001, 1, 31));
    });
    of("Returns the day; NONE if the month has no such day.", () -> {
      int[] lengths = {31, 28, 31, 30, 31, 30, 31, 31, 30, 31, 30, 31};
      for (int k = 1; k <= 12; k++) {
        int month = k, last = lengths[k - 1];
        due(day(2001, month, last), () -> fresh().dayOf(2001, month, last));
        due(NONE, () -> fresh().dayOf(2001, month, last + 1));
        due(NONE, () -> fresh().dayOf(2001, month, 0));
      }
      for (int year : new int[] {2100, 2200, 2300, 2001, 2399}) due(NONE, () -> fresh().dayOf(year, 2, 29));
      for (int year : new int[] {2000, 2004, 2396}) {
        due(day(year, 2, 29), () -> fresh().dayOf(year, 2, 29));
        due(NONE, () -> fresh().dayOf(year, 2, 30));
      }
    });
    of("Throws `IllegalArgumentException` if year or month is out of range", () -> {
      for (int year : new int[] {1999, 2400, 0, LEAST, MOST}) refused(BAD, () -> full(), x -> x.dayOf(year, 1, 1));
      for (int month : new int[] {0, 13, LEAST, MOST}) refused(BAD, () -> full(), x -> x.dayOf(2000, month, 1));
      due(BAD, () -> fresh().dayOf(1999, 0, 0));
      due(BAD, () -> fresh().dayOf(2400, 1, 32));
    });
  }

  private static void dayAt() {
    section("Promise 28");
    of("Tells about a day.", () -> {
      // Each month's first and last day, in years of all lengths.
      for (int year : new int[] {2000, 2001, 2004, 2099, 2100, 2200, 2399}) for (int k = 1; k <= 12; k++) {
        int month = k, first = day(year, month, 1);
        Calendarhall x = fresh();
        due(year, () -> x.dayAt(first, 0));
        due(month, () -> x.dayAt(first, 1));
        due(1, () -> x.dayAt(first, 2));
        if (first == 0) continue;
        due(month == 1 ? year - 1 : year, () -> x.dayAt(first - 1, 0));
        due(month == 1 ? 12 : month - 1, () -> x.dayAt(first - 1, 1));
        due(first - day(month == 1 ? year - 1 : year, month == 1 ? 12 : month - 1, 1), () -> x.dayAt(first - 1, 2));
      }
    });
    of("- `day`: 0 to 146096", () -> range(0, 146096, BAD, () -> full(), (x, day) -> x.dayAt(day, 0)));
    of("- `what`: 0 its year, 1 its month, 2 its number in the month, 3 its weekday, 4 the days from the beginning of the year up to it (itself counted)", () -> {
      range(0, 4, BAD, () -> full(), (x, what) -> x.dayAt(10, what));
      int[][] want = {{0, 2000, 1, 1, 5, 1}, {10, 2000, 1, 11, 1, 11}, {59, 2000, 2, 29, 1, 60}, {365, 2000, 12, 31, 6, 366}, {366, 2001, 1, 1, 0, 1}, {730, 2001, 12, 31, 0, 365}, {146096, 2399, 12, 31, 4, 365}};
      for (int[] w : want) for (int k = 0; k < 5; k++) {
        int what = k;
        due(w[k + 1], () -> fresh().dayAt(w[0], what));
      }
    });
    of("Returns what is asked.", () -> {
      // Each of the days once, a hundred to a hall.
      for (int first = 0; first < 146097; first += 100) {
        Calendarhall x = fresh();
        for (int k = first; k < Math.min(first + 100, 146097); k++) {
          int d = k;
          due(Model.YEAR[d] * 10000 + Model.MONTH[d] * 100 + Model.NUMBER[d], () -> x.dayAt(d, 0) * 10000 + x.dayAt(d, 1) * 100 + x.dayAt(d, 2));
          due(Model.WEEKDAY[d], () -> x.dayAt(d, 3));
        }
      }
    });
    of("Throws `IllegalArgumentException` see section 9", () -> {
      due(BAD, () -> fresh().dayAt(-1, 0));
      due(BAD, () -> fresh().dayAt(146097, 0));
      due(BAD, () -> fresh().dayAt(0, -1));
      due(BAD, () -> fresh().dayAt(0, 5));
    });
  }

  private static void toLocal() {
    section("Promise 29");
    of("Returns the local minute of a common minute.", () -> {
      Calendarhall x = fresh();
      x.setZone(0, 90, 30);
      int forth = day(2000, 3, 26) * DAY + 120 - 90, back = day(2000, 10, 29) * DAY + 120 - 90;
      due(forth + 89, () -> x.toLocal(0, forth - 1));
      due(forth + 120, () -> x.toLocal(0, forth));
      due(back + 119, () -> x.toLocal(0, back - 1));
      due(back + 90, () -> x.toLocal(0, back));
    });
    of("- `zone`: 0 to 2", () -> range(0, 2, OUT, () -> full(), (x, zone) -> x.toLocal(zone, FIRST)));
    of("- `minute`: a common minute", () -> range(14400, 210240000, BAD, () -> full(), (x, minute) -> x.toLocal(0, minute)));
    of("Returns the local minute.", () -> {
      // Also one that is no common minute that calls take.
      Calendarhall x = fresh();
      x.setZone(0, -720, 120);
      x.setZone(1, 840, 120);
      due(13680, () -> x.toLocal(0, 14400));
      due(15240, () -> x.toLocal(1, 14400));
      // The day 146000 is in summer, the 26th of September 2399.
      due(210239400, () -> x.toLocal(0, 210240000));
      due(210240960, () -> x.toLocal(1, 210240000));
    });
    of("Throws `IndexOutOfBoundsException` see section 9", () -> {
      noneThere(3, (x, zone) -> x.toLocal(zone, FIRST));
      due(OUT, () -> fresh().toLocal(3, 0));
    });
    of("Throws `IllegalArgumentException` see section 9", () -> {
      due(BAD, () -> fresh().toLocal(2, 14399));
      due(BAD, () -> fresh().toLocal(2, 210240001));
    });
  }

  private static void toCommon() {
    section("Promise 30");
    of("Returns the common minute that tells a local minute.", () -> {
      Calendarhall x = fresh();
      x.setZone(0, -30, 15);
      due(20 * DAY + 30, () -> x.toCommon(0, 20 * DAY, false));
      due(200 * DAY + 15, () -> x.toCommon(0, 200 * DAY, false));
      for (int m = day(2000, 3, 26) * DAY + 100; m < day(2000, 3, 26) * DAY + 200; m++) {
        int common = m;
        due(common, () -> x.toCommon(0, x.toLocal(0, common), false));
      }
    });
    of("- `zone`: 0 to 2", () -> range(0, 2, OUT, () -> full(), (x, zone) -> x.toCommon(zone, FIRST, true)));
    of("- `minute`: a local minute, 14400 to 210240000", () -> {
      range(14400, 210240000, BAD, () -> full(), (x, minute) -> x.toCommon(0, minute, false));
      range(14400, 210240000, BAD, () -> full(), (x, minute) -> x.toCommon(0, minute, true));
      // The common minute need not be one that calls take.
      Calendarhall x = fresh();
      x.setZone(0, 840, 0);
      x.setZone(1, -720, 0);
      due(13560, () -> x.toCommon(0, 14400, false));
      due(210240720, () -> x.toCommon(1, 210240000, false));
    });
    of("- `isSecond`: false for the first one, true for the second one", () -> {
      for (int shift : new int[] {15, 60, 120}) {
        Calendarhall x = fresh();
        x.setZone(0, 60, shift);
        int back = day(2000, 10, 29) * DAY + 120;
        for (int minute : new int[] {back, back + shift - 1}) {
          due(minute - 60 - shift, () -> x.toCommon(0, minute, false));
          due(minute - 60, () -> x.toCommon(0, minute, true));
        }
      }
    });
    of("Returns the common minute; NONE if there is none, or no second one.", () -> {
      for (int shift : new int[] {15, 60, 120}) {
        Calendarhall x = fresh();
        x.setZone(0, 60, shift);
        int forth = day(2000, 3, 26) * DAY + 120, back = day(2000, 10, 29) * DAY + 120;
        for (int minute : new int[] {forth, forth + shift - 1}) {
          due(NONE, () -> x.toCommon(0, minute, false));
          due(NONE, () -> x.toCommon(0, minute, true));
        }
        due(forth - 61, () -> x.toCommon(0, forth - 1, false));
        due(forth - 60, () -> x.toCommon(0, forth + shift, false));
        for (int minute : new int[] {forth - 1, forth + shift, back - 1, back + shift}) due(NONE, () -> x.toCommon(0, minute, true));
        due(back - 1 - 60 - shift, () -> x.toCommon(0, back - 1, false));
        due(back + shift - 60, () -> x.toCommon(0, back + shift, false));
      }
      // Without a shift each minute is told once.
      due(NONE, () -> fresh().toCommon(0, day(2000, 10, 29) * DAY + 120, true));
      due(day(2000, 3, 26) * DAY + 120, () -> fresh().toCommon(0, day(2000, 3, 26) * DAY + 120, false));
    });
    of("Throws `IndexOutOfBoundsException` see section 9", () -> {
      noneThere(3, (x, zone) -> x.toCommon(zone, FIRST, false));
      due(OUT, () -> fresh().toCommon(3, 0, true));
    });
    of("Throws `IllegalArgumentException` see section 9", () -> {
      due(BAD, () -> fresh().toCommon(0, 14399, true));
      due(BAD, () -> fresh().toCommon(0, 210240001, false));
    });
  }

  // ---- series

  private static void dueSeries(Calendarhall x, int... want) {
    for (int k = 0; k < want.length; k++) {
      int what = k;
      due(want[k], () -> x.seriesAt(0, what));
    }
  }

  private static void seriesAt() {
    section("Promise 31");
    of("Tells about a series.", () -> {
      Calendarhall x = fresh();
      x.addSeries(2, 146000, 1439, 600, 255, true);
      dueSeries(x, 2, 146000, 1439, 600, 255, 1, 0, 0, 0, 0, 0, 0, 0);
      x.setRule(0, 4, 99, 127, -5);
      x.setEnd(0, 2, 146000);
      dueSeries(x, 2, 146000, 1439, 600, 255, 1, 4, 99, 127, -5, 2, 146000, 0);
    });
    of("- `series`: its number", () -> range(0, 11, OUT, () -> twelve(), (x, series) -> x.seriesAt(series, 0)));
    of("- `what`: 0 its zone, 1 its first day", () -> {
      range(0, 12, BAD, () -> full(), (x, what) -> x.seriesAt(0, what));
      // For what the kind or the end does not use it is 0, also if it had been something else before.
      Calendarhall x = fresh();
      x.addSeries(0, 10, 600, 30, 5, false);
      int[][] rules = {{4, 3, 65, -2}, {3, 4, 0, -31}, {2, 5, 6, 0}, {1, 7, 0, 0}, {5, 8, 0, 0}, {0, 0, 0, 0}};
      for (int[] r : rules) {
        x.setRule(0, r[0], r[1], r[2], r[3]);
        dueSeries(x, 0, 10, 600, 30, 5, 0, r[0], r[1], r[2], r[3], 0, 0, 0);
      }
      x.setEnd(0, 1, 500);
      dueSeries(x, 0, 10, 600, 30, 5, 0, 0, 0, 0, 0, 1, 500, 0);
      x.setEnd(0, 0, 0);
      dueSeries(x, 0, 10, 600, 30, 5, 0, 0, 0, 0, 0, 0, 0, 0);
      x.setRule(0, 1, 1, 0, 0);
      for (int k = 0; k <= 10; k++) {
        int count = k;
        due(count, () -> x.seriesAt(0, 12));
        if (k < 10) x.leaveOut(0, 10 + k);
      }
    });
    of("Returns what is asked.", () -> {
      Calendarhall x = full();
      dueSeries(x, 0, 10, 10, 30, 7, 1, 1, 1, 0, 0, 0, 0, 2);
      due(1, () -> x.seriesAt(1, 0));
      due(31, () -> x.seriesAt(1, 8));
      due(130, () -> x.seriesAt(2, 4));
    });
    of("Throws `IndexOutOfBoundsException` see section 9", () -> {
      noneThere(3, (x, series) -> x.seriesAt(series, 0));
      due(OUT, () -> fresh().seriesAt(0, 13));
    });
    of("Throws `IllegalArgumentException` see section 9", () -> {
      due(BAD, () -> daily().seriesAt(0, -1));
      due(BAD, () -> daily().seriesAt(0, 13));
    });
  }

  private static Calendarhall twelve() {
    Calendarhall x = daily();
    for (int k = 1; k < 12; k++) x.addSeries(0, 10, 0, 1, 1, true);
    return x;
  }

  /** Each second day from the day 20 to the day 40; one is left out, and one is moved. */
  private static Calendarhall eachSecond() {
    Calendarhall x = fresh();
    x.addSeries(0, 20, 600, 30, 1, false);
    x.setRule(0, 1, 2, 0, 0);
    x.setEnd(0, 2, 41);
    x.leaveOut(0, 24);
    x.move(0, 26, 15, 0);
    return x;
  }

  private static void nextDay() {
    section("Promise 32");
    of("Returns the first day of a series that is not before a day, by its rule and end alone.", () -> {
      Calendarhall x = eachSecond();
      int[][] want = {{10, 20}, {19, 20}, {20, 20}, {21, 22}, {23, 24}, {24, 24}, {25, 26}, {26, 26}, {39, 40}, {40, 40}, {41, NONE}};
      for (int[] w : want) due(w[1], () -> x.nextDay(0, w[0]));
    });
    of("- `series`: its number", () -> range(0, 11, OUT, () -> twelve(), (x, series) -> x.nextDay(series, 10)));
    of("- `day`: 10 to 146000", () -> range(10, 146000, BAD, () -> full(), (x, day) -> x.nextDay(0, day)));
    of("Returns the day; NONE without one.", () -> {
      due(NONE, () -> eachSecond().nextDay(0, 41));
      due(NONE, () -> eachSecond().nextDay(0, 146000));
      due(146000, () -> daily().nextDay(0, 146000));
      int[][] rules = {{0, 0, 0, 0}, {1, 1, 0, 0}, {2, 1, 127, 0}, {3, 1, 0, 1}, {4, 1, 127, 1}, {5, 1, 0, 0}};
      for (int[] r : rules) {
        Calendarhall x = daily();
        x.setRule(0, r[0], r[1], r[2], r[3]);
        x.setEnd(0, 2, 10);
        due(NONE, () -> x.nextDay(0, 11));
        due(NONE, () -> x.nextDay(0, 146000));
      }
    });
    of("Throws `IndexOutOfBoundsException` see section 9", () -> {
      noneThere(3, (x, series) -> x.nextDay(series, 10));
      due(OUT, () -> fresh().nextDay(0, 9));
    });
    of("Throws `IllegalArgumentException` see section 9", () -> {
      due(BAD, () -> daily().nextDay(0, 9));
      due(BAD, () -> daily().nextDay(0, 146001));
    });
  }

  private static void countDays() {
    section("Promise 33");
    of("Counts the days of a series in a piece, by its rule and end alone.", () -> {
      Calendarhall x = eachSecond();
      int[][] want = {{10, 146000, 11}, {10, 19, 0}, {10, 20, 1}, {20, 20, 1}, {21, 21, 0}, {20, 22, 2}, {24, 26, 2}, {40, 40, 1}, {41, 146000, 0}, {39, 40, 1}};
      for (int[] w : want) due(w[2], () -> x.countDays(0, w[0], w[1]));
      // Each piece of some days, for each kind of rule, day by day as nextDay() tells.
      int[][] rules = {{0, 0, 0, 0}, {1, 3, 0, 0}, {2, 2, 82, 0}, {3, 1, 0, -2}, {4, 1, 3, 2}, {5, 1, 0, 0}};
      for (int[] r : rules) for (int how = 0; how < 3; how++) {
        Calendarhall y = fresh();
        y.addSeries(0, 18, 0, 1, 0, false);
        y.setRule(0, r[0], r[1], r[2], r[3]);
        y.setEnd(0, how, how == 0 ? 0 : how == 1 ? 4 : 33);
        boolean[] isDay = new boolean[60];
        for (int d = y.nextDay(0, 10); d != NONE && d < 60; d = y.nextDay(0, d + 1)) isDay[d] = true;
        for (int from = 12; from < 55; from += 7) for (int to = from; to < 60; to += 5) {
          int a = from, b = to, count = 0;
          for (int d = from; d <= to; d++) if (isDay[d]) count++;
          due(count, () -> y.countDays(0, a, b));
        }
      }
    });
    of("Counts the days of a series in a piece", () -> {
      // Over some years, from months and years in which there is none of its days, too.
      int[][] rules = {{2, 9, 65, 0}, {3, 3, 0, 5}, {3, 5, 0, -31}, {4, 3, 3, 2}, {4, 7, 127, -5}, {5, 2, 0, 0}, {5, 1, 0, 0}};
      for (int[] r : rules) {
        Calendarhall x = fresh();
        x.addSeries(0, 59, 0, 1, 0, false);
        x.setRule(0, r[0], r[1], r[2], r[3]);
        boolean[] isDay = new boolean[1900];
        for (int d = x.nextDay(0, 10); d != NONE && d < 1900; d = x.nextDay(0, d + 1)) isDay[d] = true;
        for (int from = 40; from < 1500; from += 91) for (int to = from + 17; to < 1900; to += 333) {
          int a = from, b = to, count = 0;
          for (int d = from; d <= to; d++) if (isDay[d]) count++;
          due(count, () -> x.countDays(0, a, b));
        }
      }
    });
    of("- `series`: its number", () -> range(0, 11, OUT, () -> twelve(), (x, series) -> x.countDays(series, 10, 10)));
    of("- `from`: 10 to 146000", () -> range(10, 146000, BAD, () -> full(), (x, from) -> x.countDays(0, from, 146000)));
    of("- `to`: from to 146000, itself counted", () -> {
      range(10, 146000, BAD, () -> full(), (x, to) -> x.countDays(0, 10, to));
      range(700, 146000, BAD, () -> full(), (x, to) -> x.countDays(0, 700, to));
      range(146000, 146000, BAD, () -> full(), (x, to) -> x.countDays(0, 146000, to));
      due(1, () -> daily().countDays(0, 10, 10));
      due(2, () -> daily().countDays(0, 10, 11));
      due(1, () -> daily().countDays(0, 146000, 146000));
    });
    of("Returns how many there are.", () -> {
      due(145991, () -> daily().countDays(0, 10, 146000));
      due(0, () -> eachSecond().countDays(0, 10, 10));
      // More than a count can tell: a day of each month, of each year.
      Calendarhall x = daily();
      x.setRule(0, 3, 1, 0, 1);
      due(399 * 12 + 8, () -> x.countDays(0, 10, 146000));
      x.setRule(0, 5, 1, 0, 0);
      due(400, () -> x.countDays(0, 10, 146000));
      x.setRule(0, 2, 1, 127, 0);
      due(145991, () -> x.countDays(0, 10, 146000));
    });
    of("Throws `IndexOutOfBoundsException` see section 9", () -> {
      noneThere(3, (x, series) -> x.countDays(series, 10, 10));
      due(OUT, () -> fresh().countDays(0, 9, 8));
    });
    of("Throws `IllegalArgumentException` see section 9", () -> {
      due(BAD, () -> daily().countDays(0, 9, 20));
      due(BAD, () -> daily().countDays(0, 20, 19));
      due(BAD, () -> daily().countDays(0, 20, 146001));
      due(BAD, () -> daily().countDays(0, MOST, LEAST));
    });
  }

  private static void dayOfSeries() {
    section("Promise 34");
    of("Returns a day of a series by its place, by its rule and end alone.", () -> {
      Calendarhall x = eachSecond();
      for (int k = 0; k < 11; k++) {
        int place = k;
        due(20 + 2 * place, () -> x.dayOfSeries(0, place));
      }
      due(MISSING, () -> x.dayOfSeries(0, 11));
    });
    of("- `series`: its number", () -> range(0, 11, OUT, () -> twelve(), (x, series) -> x.dayOfSeries(series, 0)));
    of("- `place`: 0 to 500", () -> {
      range(0, 500, BAD, () -> full(), (x, place) -> x.dayOfSeries(0, place));
      due(10, () -> daily().dayOfSeries(0, 0));
      due(510, () -> daily().dayOfSeries(0, 500));
    });
    of("Returns the day.", () -> {
      Calendarhall x = daily();
      x.setRule(0, 1, 99, 0, 0);
      due(10 + 99 * 500, () -> x.dayOfSeries(0, 500));
      x.setRule(0, 3, 99, 0, 1);
      due(day(2008, 4, 1), () -> x.dayOfSeries(0, 0));
      x.setRule(0, 5, 99, 0, 0);
      due(day(2396, 1, 11), () -> x.dayOfSeries(0, 4));
      due(MISSING, () -> x.dayOfSeries(0, 5));
    });
    of("Throws `IndexOutOfBoundsException` see section 9", () -> {
      noneThere(3, (x, series) -> x.dayOfSeries(series, 0));
      due(OUT, () -> fresh().dayOfSeries(0, 501));
    });
    of("Throws `IllegalArgumentException` see section 9", () -> {
      due(BAD, () -> daily().dayOfSeries(0, -1));
      due(BAD, () -> daily().dayOfSeries(0, 501));
    });
    of("Throws `NoSuchElementException` if it has not so many days", () -> {
      Calendarhall x = daily();
      x.setEnd(0, 1, 500);
      due(509, () -> x.dayOfSeries(0, 499));
      due(MISSING, () -> x.dayOfSeries(0, 500));
      x.setEnd(0, 1, 1);
      due(MISSING, () -> x.dayOfSeries(0, 1));
      x.setEnd(0, 2, 12);
      due(12, () -> x.dayOfSeries(0, 2));
      due(MISSING, () -> x.dayOfSeries(0, 3));
      // No day at all: none of its rule, or none ahead of its end.
      x.setRule(0, 2, 1, 1, 0);
      due(MISSING, () -> x.dayOfSeries(0, 0));
      x.setEnd(0, 0, 0);
      due(16, () -> x.dayOfSeries(0, 0));
      Calendarhall y = fresh();
      y.addSeries(0, 40, 0, 1, 0, false);
      y.setRule(0, 3, 12, 0, 30);
      due(MISSING, () -> y.dayOfSeries(0, 0));
    });
  }

  private static void begin() {
    section("Promise 35");
    of("Returns the begin of the date of a series for a day.", () -> {
      Calendarhall x = fresh();
      x.setZone(1, 840, 120);
      x.addSeries(1, 10, 0, 1, 0, false);
      x.setRule(0, 1, 1, 0, 0);
      due(14400 - 840, () -> x.begin(0, 10));
      due(200 * DAY - 960, () -> x.begin(0, 200));
      x.edit(0, 0, 1439);
      due(15839 - 840, () -> x.begin(0, 10));
      // As the zone is now.
      x.setZone(1, -720, 0);
      due(200 * DAY + 1439 + 720, () -> x.begin(0, 200));
      due(146000 * DAY + 1439 + 720, () -> x.begin(0, 146000));
    });
    of("- `series`: its number", () -> range(0, 11, OUT, () -> twelve(), (x, series) -> x.begin(series, 10)));
    of("- `day`: one of its days", () -> {
      for (int day : new int[] {20, 22, 40}) taken(() -> eachSecond().begin(0, day));
      for (int day : new int[] {18, 19, 21, 41, 42, 9, -1, 146001, LEAST, MOST}) refused(MISSING, () -> eachSecond(), x -> x.begin(0, day));
    });
    of("Returns the common minute; NONE if it is left out.", () -> {
      Calendarhall x = eachSecond();
      due(20 * DAY + 600, () -> x.begin(0, 20));
      due(NONE, () -> x.begin(0, 24));
      due(15 * DAY, () -> x.begin(0, 26));
      x.bringBack(0, 24);
      due(24 * DAY + 600, () -> x.begin(0, 24));
    });
    of("Throws `IndexOutOfBoundsException` see section 9", () -> {
      noneThere(3, (x, series) -> x.begin(series, 12));
      due(OUT, () -> fresh().begin(0, 9));
    });
    of("Throws `NoSuchElementException` if day is none of its days", () -> {
      // Each day about three month, for each kind of rule: those that nextDay() tells, and no other.
      int[][] steps = {{0, 0, 0, 0}, {1, 1, 0, 0}, {1, 6, 0, 0}, {2, 1, 1, 0}, {2, 2, 77, 0}, {3, 1, 0, 1}, {3, 1, 0, 2}, {3, 1, 0, 31}, {3, 2, 0, 15}, {3, 1, 0, -1}, {3, 1, 0, -2}, {3, 2, 0, -31}, {5, 1, 0, 0}};
      for (int[] r : steps) dueBegins(r[0], r[1], r[2], r[3]);
      for (int place = -5; place <= 5; place++) for (int set : new int[] {1, 64, 33, 31, 96, 127}) if (place != 0) dueBegins(4, 1, set, place);
      // Not the day to which a date was moved; and none behind the end, by a count.
      Calendarhall x = eachSecond();
      due(MISSING, () -> x.begin(0, 15));
      x.setEnd(0, 1, 2);
      due(22 * DAY + 600, () -> x.begin(0, 22));
      due(MISSING, () -> x.begin(0, 24));
    });
  }

  private static void dueBegins(int kind, int step, int days, int place) {
    Calendarhall x = fresh();
    x.addSeries(0, 12, 7, 1, 0, false);
    x.setRule(0, kind, step, days, place);
    for (int k = 10; k < 100; k++) {
      int d = k;
      due(x.nextDay(0, d) == d ? (Object) (d * DAY + 7) : MISSING, () -> x.begin(0, d));
    }
  }

  /** In zones of all sorts the date of each of some days is found at its minute, and not beside it. */
  private static void dueToTheMinute(Calendarhall x, int d) {
    int begin = x.begin(0, d), next = x.begin(0, d + 1);
    due(d, () -> x.nextDate(0, begin));
    due(d + 1, () -> x.nextDate(0, begin + 1));
    due(d + 1, () -> x.nextDate(0, next));
    due(1, () -> x.countDates(0, begin, begin + 1));
    due(0, () -> x.countDates(0, begin + 1, next));
    due(1, () -> x.countDates(0, begin, next));
    due(2, () -> x.countDates(0, begin, next + 1));
    due(1, () -> x.datesAt(0, begin));
    due(1, () -> x.datesAt(0, begin + 29));
    due(0, () -> x.datesAt(0, begin - 1));
    due(0, () -> x.datesAt(0, begin + 30));
    due(1, () -> x.minutesOf(0, begin - 100, begin + 1, 0));
    due(1, () -> x.minutesOf(0, begin + 29, begin + 100, 0));
    due((17L * 31 + begin) * 31, () -> x.checksum(begin, begin + 1));
    due(17L, () -> x.checksum(begin + 1, begin + 200));
  }

  private static void nextDate() {
    section("Promise 36");
    of("Returns the first date of a series, in their order, that does not begin before a common minute.", () -> {
      Calendarhall x = eachSecond();
      int[][] want = {{FIRST, 26}, {15 * DAY, 26}, {15 * DAY + 1, 20}, {20 * DAY + 600, 20}, {20 * DAY + 601, 22}, {22 * DAY + 601, 28}, {40 * DAY + 600, 40}};
      for (int[] w : want) due(w[1], () -> x.nextDate(0, w[0]));
      // Of like begins the lower day, whether it is the one that was moved or the other one.
      x.move(0, 30, 28, 600);
      due(28, () -> x.nextDate(0, 28 * DAY + 600));
      x.move(0, 22, 28, 600);
      due(22, () -> x.nextDate(0, 28 * DAY + 600));
      due(20, () -> x.nextDate(0, 15 * DAY + 1));
    });
    of("- `series`: its number", () -> range(0, 11, OUT, () -> twelve(), (x, series) -> x.nextDate(series, FIRST)));
    of("- `minute`: a common minute", () -> range(14400, 210240000, BAD, () -> full(), (x, minute) -> x.nextDate(0, minute)));
    of("Returns the day of the date; NONE without one.", () -> {
      due(NONE, () -> eachSecond().nextDate(0, 40 * DAY + 601));
      due(146000, () -> daily().nextDate(0, LAST));
      // All that are left are left out, or moved ahead of the minute.
      Calendarhall x = eachSecond();
      x.leaveOut(0, 40);
      x.move(0, 38, 12, 0);
      due(NONE, () -> x.nextDate(0, 36 * DAY + 601));
      due(36, () -> x.nextDate(0, 36 * DAY + 600));
      // A date before the first minute that calls take is none of those.
      Calendarhall y = fresh();
      y.setZone(0, 15, 0);
      y.addSeries(0, 10, 0, 30, 0, false);
      due(NONE, () -> y.nextDate(0, FIRST));
      // Behind ten days that are left out, one behind the other.
      Calendarhall z = daily();
      for (int k = 10; k < 20; k++) z.leaveOut(0, k);
      due(20, () -> z.nextDate(0, FIRST));
      z.setEnd(0, 2, 19);
      for (int k = 10; k < 20; k++) z.leaveOut(0, k);
      due(NONE, () -> z.nextDate(0, FIRST));
      // The same in summer, from each minute between two dates.
      Calendarhall s = daily();
      s.setZone(0, 840, 120);
      for (int k = 201; k < 211; k++) s.leaveOut(0, k);
      for (int ahead : new int[] {1, 119, 120, 121, 600, 1439}) due(211, () -> s.nextDate(0, 200 * DAY + 600 - 960 + ahead));
      due(200, () -> s.nextDate(0, 200 * DAY + 600 - 960));
    });
    of("that does not begin before a common minute.", () -> {
      for (int offset : new int[] {-720, -15, 0, 840}) for (int shift : new int[] {0, 15, 120}) for (int minute : new int[] {0, 150, 1439}) {
        Calendarhall x = daily();
        x.setZone(0, offset, shift);
        x.edit(0, 0, minute);
        for (int d : new int[] {12, 20, 84, 85, 86, 87, 200, 301, 302, 303, 304}) dueToTheMinute(x, d);
      }
    });
    of("Throws `IndexOutOfBoundsException` see section 9", () -> {
      noneThere(3, (x, series) -> x.nextDate(series, FIRST));
      due(OUT, () -> fresh().nextDate(0, 0));
    });
    of("Throws `IllegalArgumentException` see section 9", () -> {
      due(BAD, () -> daily().nextDate(0, 14399));
      due(BAD, () -> daily().nextDate(0, 210240001));
    });
  }

  private static void countDates() {
    section("Promise 37");
    of("Counts the dates of a series that begin in a piece of time of at most 525600 minutes.", () -> {
      longest(525600, () -> full(), (x, from, to) -> x.countDates(0, from, to));
      due(365, () -> daily().countDates(0, FIRST, FIRST + 525600));
      due(366, () -> daily().countDates(0, 15000, 15000 + 525600) + daily().countDates(0, 15000 + 525600, 15001 + 525600));
      due(0, () -> daily().countDates(0, 14999, 15000));
      due(1, () -> daily().countDates(0, 15000, 15001));
      due(0, () -> daily().countDates(0, 15001, 15002));
    });
    of("- `series`: its number", () -> range(0, 11, OUT, () -> twelve(), (x, series) -> x.countDates(series, FIRST, FIRST + 1)));
    of("- `from`: a common minute", () -> rangeOfFrom(() -> full(), (x, from, to) -> x.countDates(0, from, to)));
    of("- `to`: a common minute", () -> rangeOfTo(() -> full(), (x, from, to) -> x.countDates(0, from, to)));
    of("Returns how many there are.", () -> {
      Calendarhall x = eachSecond();
      due(10, () -> x.countDates(0, FIRST, 60 * DAY));
      due(1, () -> x.countDates(0, 15 * DAY, 15 * DAY + 1));
      due(0, () -> x.countDates(0, 15 * DAY + 1, 20 * DAY));
      due(0, () -> x.countDates(0, 24 * DAY, 27 * DAY));
      due(0, () -> x.countDates(0, 41 * DAY, 400 * DAY));
      // Moved into the piece from outside of it, out of it, and within it.
      x.move(0, 40, 29, 0);
      x.move(0, 30, 50, 0);
      x.move(0, 28, 29, 1);
      due(2, () -> x.countDates(0, 28 * DAY, 32 * DAY));
    });
    of("Throws `IndexOutOfBoundsException` see section 9", () -> {
      noneThere(3, (x, series) -> x.countDates(series, FIRST, FIRST + 1));
      due(OUT, () -> fresh().countDates(0, 0, 0));
    });
    of("Throws `IllegalArgumentException` see section 9", () -> {
      due(BAD, () -> daily().countDates(0, FIRST, FIRST));
      due(BAD, () -> daily().countDates(0, FIRST, FIRST + 525601));
      due(BAD, () -> daily().countDates(0, LEAST, MOST));
    });
  }

  private static void answerOf() {
    section("Promise 38");
    of("Returns the answer of a person for a series.", () -> {
      Calendarhall x = full();
      due(3, () -> x.answerOf(0, 2));
      due(0, () -> x.answerOf(1, 2));
      x.answer(0, 2, 0);
      due(0, () -> x.answerOf(0, 2));
    });
    of("- `series`: its number", () -> range(0, 11, OUT, () -> twelve(), (x, series) -> x.answerOf(series, 0)));
    of("- `person`: 0 to 7", () -> range(0, 7, OUT, () -> full(), (x, person) -> x.answerOf(0, person)));
    of("Returns the answer; NONE if the person is none of its people.", () -> {
      Calendarhall x = full();
      int[] want = {NONE, 0, NONE, NONE, NONE, NONE, NONE, 0};
      for (int k = 0; k < 8; k++) {
        int person = k;
        due(want[k], () -> x.answerOf(2, person));
      }
      x.answer(2, 7, 2);
      due(2, () -> x.answerOf(2, 7));
      x.edit(2, 2, 2);
      due(NONE, () -> x.answerOf(2, 7));
    });
    of("Throws `IndexOutOfBoundsException` see section 9", () -> {
      noneThere(3, (x, series) -> x.answerOf(series, 0));
      noneThere(8, (x, person) -> x.answerOf(0, person));
    });
  }

  private static void counterOf() {
    section("Promise 39");
    of("Returns the counter-proposal of a person for a series.", () -> {
      Calendarhall x = full();
      due(300, () -> x.counterOf(0, 1));
      x.counter(0, 1, 1439);
      due(1439, () -> x.counterOf(0, 1));
      x.counter(0, 1, 0);
      due(0, () -> x.counterOf(0, 1));
    });
    of("- `series`: its number", () -> range(0, 11, OUT, () -> twelve(), (x, series) -> x.counterOf(series, 0)));
    of("- `person`: 0 to 7", () -> range(0, 7, OUT, () -> full(), (x, person) -> x.counterOf(0, person)));
    of("Returns the minute of the day; NONE without one.", () -> {
      Calendarhall x = full();
      due(NONE, () -> x.counterOf(0, 0));
      due(NONE, () -> x.counterOf(0, 7));
      due(NONE, () -> x.counterOf(1, 1));
      x.edit(0, 2, 5);
      due(NONE, () -> x.counterOf(0, 1));
    });
    of("Throws `IndexOutOfBoundsException` see section 9", () -> {
      noneThere(3, (x, series) -> x.counterOf(series, 0));
      noneThere(8, (x, person) -> x.counterOf(0, person));
    });
  }

  // ---- busy and free

  private static void datesAt() {
    section("Promise 40");
    of("Tells in how many dates a person takes part that are on at a common minute.", () -> {
      for (int length : new int[] {1, 600}) {
        Calendarhall x = daily();
        x.edit(0, 1, length);
        due(0, () -> x.datesAt(0, 14999));
        due(1, () -> x.datesAt(0, 15000));
        due(1, () -> x.datesAt(0, 14999 + length));
        due(0, () -> x.datesAt(0, 15000 + length));
        due(0, () -> x.datesAt(1, 15000));
        x.answer(0, 0, 2);
        due(0, () -> x.datesAt(0, 15000));
      }
    });
    of("- `person`: 0 to 7", () -> {
      range(0, 7, OUT, () -> full(), (x, person) -> x.datesAt(person, FIRST));
      dueOfOne((x, person) -> x.datesAt(person, 15000), 1, 0);
    });
    of("- `minute`: a common minute", () -> {
      range(14400, 210240000, BAD, () -> full(), (x, minute) -> x.datesAt(0, minute));
      // Dates that began before the first minute, and one that begins at the last one.
      Calendarhall x = fresh();
      x.setZone(0, 600, 0);
      x.addSeries(0, 10, 0, 600, 1, false);
      due(0, () -> x.datesAt(0, 14400));
      x.edit(0, 0, 1);
      due(1, () -> x.datesAt(0, 14400));
      due(0, () -> x.datesAt(0, 14401));
      Calendarhall y = fresh();
      y.addSeries(0, 146000, 0, 1, 1, false);
      due(1, () -> y.datesAt(0, 210240000));
    });
    of("Returns how many there are.", () -> {
      // Eleven of each of twelve series.
      Calendarhall x = fresh();
      for (int n = 0; n < 12; n++) {
        x.addSeries(0, 10, 600, 600, 1, false);
        x.setRule(n, 1, 1, 0, 0);
        for (int k = 0; k < 10; k++) x.move(n, 20 + k, 10, 600 + k);
      }
      due(24, () -> x.datesAt(0, 15000));
      due(132, () -> x.datesAt(0, 15009));
      due(132, () -> x.datesAt(0, 15599));
      due(108, () -> x.datesAt(0, 15600));
      due(12, () -> x.datesAt(0, 15608));
      due(0, () -> x.datesAt(0, 15609));
    });
    of("Throws `IndexOutOfBoundsException` see section 9", () -> {
      noneThere(8, (x, person) -> x.datesAt(person, FIRST));
      due(OUT, () -> fresh().datesAt(8, 0));
    });
    of("Throws `IllegalArgumentException` see section 9", () -> {
      due(BAD, () -> fresh().datesAt(0, 14399));
      due(BAD, () -> fresh().datesAt(0, 210240001));
    });
  }

  /** What is due for a person who alone takes part in a daily series, and for each other one. */
  private static void dueOfOne(With call, Object want, Object other) {
    for (int k = 0; k < 8; k++) for (int p = 0; p < 8; p++) {
      int person = p;
      Calendarhall x = daily();
      x.edit(0, 2, 1 << k);
      due(p == k ? want : other, () -> call.on(x, person));
    }
  }

  private static void minutesOf() {
    section("Promise 41");
    of("Counts minutes of a person in a piece of time of at most 20160 minutes.", () -> {
      longest(20160, () -> full(), (x, from, to) -> x.minutesOf(0, from, to, 0));
      longest(20160, () -> full(), (x, from, to) -> x.minutesOf(0, from, to, 1));
      Calendarhall x = daily();
      due(14 * 30, () -> x.minutesOf(0, FIRST, FIRST + 20160, 0));
      due(10 * 480, () -> x.minutesOf(0, FIRST, FIRST + 20160, 1));
      due(10 * 30, () -> x.minutesOf(0, FIRST, FIRST + 20160, 2));
    });
    of("- `person`: 0 to 7", () -> {
      range(0, 7, OUT, () -> full(), (x, person) -> x.minutesOf(person, FIRST, FIRST + 1, 0));
      dueOfOne((x, person) -> x.minutesOf(person, FIRST, FIRST + DAY, 0), 30, 0);
      dueOfOne((x, person) -> x.minutesOf(person, FIRST, FIRST + DAY, 2), 30, 0);
      dueOfOne((x, person) -> x.minutesOf(person, FIRST, FIRST + DAY, 1), 480, 480);
    });
    of("- `from`: a common minute", () -> rangeOfFrom(() -> full(), (x, from, to) -> x.minutesOf(0, from, to, 2)));
    of("- `to`: a common minute", () -> rangeOfTo(() -> full(), (x, from, to) -> x.minutesOf(0, from, to, 2)));
    of("- `which`: 0 those at which the person is busy, 1 work minutes, 2 work minutes at which the person is busy", () -> {
      range(0, 2, BAD, () -> full(), (x, which) -> x.minutesOf(0, FIRST, FIRST + 1, which));
      // Busy from 500 to 560, at work from 540 on.
      Calendarhall x = daily();
      x.edit(0, 0, 500);
      x.edit(0, 1, 60);
      int[] want = {60, 480, 20};
      for (int k = 0; k < 3; k++) {
        int which = k;
        due(want[k], () -> x.minutesOf(0, FIRST, FIRST + DAY, which));
      }
      due(1, () -> x.minutesOf(0, FIRST + 559, FIRST + 600, 2));
      due(0, () -> x.minutesOf(0, FIRST + 560, FIRST + 600, 2));
      due(0, () -> x.minutesOf(0, FIRST + 539, FIRST + 540, 2));
      due(1, () -> x.minutesOf(0, FIRST + 540, FIRST + 541, 2));
    });
    of("Returns how many there are.", () -> {
      // Dates that are on at the edges of the piece count as far as they are in it.
      Calendarhall x = daily();
      due(10, () -> x.minutesOf(0, 15020, 15500, 0));
      due(20, () -> x.minutesOf(0, 14500, 15020, 0));
      due(5, () -> x.minutesOf(0, 15010, 15015, 0));
      due(0, () -> x.minutesOf(0, 15030, 16440, 0));
      // One that is on all the time, and a person who always works.
      x.edit(0, 1, 600);
      x.setPerson(0, 0, 127, 0, 1440);
      due(600, () -> x.minutesOf(0, 15000, 15600, 2));
      due(1440, () -> x.minutesOf(0, FIRST, FIRST + DAY, 1));
    });
    of("Throws `IndexOutOfBoundsException` see section 9", () -> {
      noneThere(8, (x, person) -> x.minutesOf(person, FIRST, FIRST + 1, 0));
      due(OUT, () -> fresh().minutesOf(8, 0, 0, 3));
    });
    of("Throws `IllegalArgumentException` see section 9", () -> {
      due(BAD, () -> fresh().minutesOf(0, FIRST, FIRST, 0));
      due(BAD, () -> fresh().minutesOf(0, FIRST, FIRST + 20161, 0));
      due(BAD, () -> fresh().minutesOf(0, FIRST, FIRST + 1, 3));
      due(BAD, () -> fresh().minutesOf(0, FIRST, FIRST + 1, -1));
    });
  }

  private static void freeNext() {
    section("Promise 42");
    of("Returns the first common minute of a piece of time, of at most 20160 minutes", () -> {
      longest(20160, () -> full(), (x, from, to) -> x.freeNext(1, from, to, 1, false));
      Calendarhall x = daily();
      x.addSeries(0, 10, 640, 60, 2, false);
      int day = FIRST + DAY;
      // 600 to 630 the person 0 is busy, 640 to 700 the person 1.
      due(FIRST, () -> x.freeNext(3, FIRST, day, 600, false));
      due(FIRST + 1, () -> x.freeNext(2, FIRST + 1, day, 600, false));
      due(15030, () -> x.freeNext(1, FIRST + 1, day, 600, false));
      due(15100, () -> x.freeNext(3, FIRST + 1, day, 600, false));
      due(15030, () -> x.freeNext(3, 15000, day, 10, false));
      due(15100, () -> x.freeNext(3, 15000, day, 11, false));
      // What was asked before does not matter.
      due(15030, () -> x.freeNext(1, 15000, day, 1, false));
      x.addSeries(0, 10, 630, 90, 4, false);
      due(15120, () -> x.freeNext(7, 15000, day, 1, false));
      due(15030, () -> x.freeNext(1, 15000, day, 1, false));
      x.dropSeries(2);
      // At work until 1020: 320 minutes from 700 on.
      due(15100, () -> x.freeNext(3, 15000, day, 320, true));
      due(NONE, () -> x.freeNext(3, 15000, day, 321, true));
    });
    of("- `people`: as bits, 1 to 255", () -> {
      range(1, 255, BAD, () -> full(), (x, people) -> x.freeNext(people, FIRST, FIRST + 1, 1, false));
      for (int k = 0; k < 8; k++) {
        int person = k;
        Calendarhall x = daily();
        x.edit(0, 2, 1 << person);
        due(15030, () -> x.freeNext(255, 15000, 16000, 1, false));
        due(15030, () -> x.freeNext(1 << person, 15000, 16000, 1, false));
        due(15000, () -> x.freeNext(1 << (person + 1) % 8, 15000, 16000, 1, false));
      }
    });
    of("- `from`: a common minute", () -> rangeOfFrom(() -> full(), (x, from, to) -> x.freeNext(1, from, to, 1, true)));
    of("- `to`: a common minute", () -> rangeOfTo(() -> full(), (x, from, to) -> x.freeNext(1, from, to, 1, true)));
    of("- `length`: 1 to 600", () -> {
      range(1, 600, BAD, () -> full(), (x, length) -> x.freeNext(1, FIRST, FIRST + DAY, length, false));
      due(FIRST, () -> fresh().freeNext(1, FIRST, FIRST + 600, 600, false));
      due(NONE, () -> fresh().freeNext(1, FIRST, FIRST + 599, 600, false));
      due(FIRST, () -> fresh().freeNext(1, FIRST, FIRST + 1, 1, false));
    });
    of("- `isWork`: whether work minutes are asked", () -> {
      due(FIRST, () -> fresh().freeNext(1, FIRST, FIRST + DAY, 480, false));
      due(FIRST + 540, () -> fresh().freeNext(1, FIRST, FIRST + DAY, 480, true));
      due(NONE, () -> fresh().freeNext(1, FIRST, FIRST + 13 * DAY, 481, true));
      due(NONE, () -> fresh().freeNext(1, FIRST, FIRST + 540, 1, true));
      due(FIRST + 540, () -> fresh().freeNext(1, FIRST, FIRST + 541, 1, true));
      // Of all of them.
      Calendarhall x = fresh();
      x.setPerson(7, 0, 127, 1019, 1440);
      due(FIRST + 1019, () -> x.freeNext(129, FIRST, FIRST + DAY, 1, true));
      due(NONE, () -> x.freeNext(129, FIRST, FIRST + 20160, 2, true));
    });
    of("Returns the minute; NONE without one.", () -> {
      Calendarhall x = daily();
      x.edit(0, 0, 0);
      x.edit(0, 1, 600);
      for (int k = 0; k < 3; k++) {
        x.addSeries(0, 10, 600 * k, k == 2 ? 240 : 600, 1, false);
        x.setRule(k + 1, 1, 1, 0, 0);
      }
      due(NONE, () -> x.freeNext(1, FIRST, FIRST + 20160, 1, false));
      due(FIRST, () -> x.freeNext(2, FIRST, FIRST + 20160, 1, false));
      x.edit(3, 1, 239);
      due(FIRST + 1439, () -> x.freeNext(1, FIRST, FIRST + 20160, 1, false));
      due(NONE, () -> x.freeNext(1, FIRST, FIRST + 1439, 1, false));
      due(NONE, () -> x.freeNext(1, FIRST, FIRST + 20160, 2, false));
    });
    of("Throws `IllegalArgumentException` see section 9", () -> {
      due(BAD, () -> fresh().freeNext(0, FIRST, FIRST + 1, 1, false));
      due(BAD, () -> fresh().freeNext(256, FIRST, FIRST + 1, 1, false));
      due(BAD, () -> fresh().freeNext(1, FIRST, FIRST, 1, false));
      due(BAD, () -> fresh().freeNext(1, FIRST, FIRST + 20161, 1, false));
      due(BAD, () -> fresh().freeNext(1, FIRST, FIRST + 1, 0, false));
      due(BAD, () -> fresh().freeNext(1, FIRST, FIRST + 1, 601, false));
    });
  }

  private static void best() {
    section("Promise 43");
    of("Returns the best time for a meeting in a piece of time of at most 10080 minutes", () -> {
      longest(10080, () -> full(), (x, from, to) -> x.best(1, from, to, 1, false));
      // Only from, and each quarter of an hour behind it: at work from 540 on.
      due(FIRST + 540, () -> fresh().best(1, FIRST, FIRST + DAY, 30, false));
      due(FIRST + 541, () -> fresh().best(1, FIRST + 1, FIRST + DAY, 30, false));
      due(FIRST + 554, () -> fresh().best(1, FIRST + 14, FIRST + DAY, 30, false));
      // As many minutes as its length are in the piece.
      due(FIRST + 540, () -> fresh().best(1, FIRST, FIRST + 570, 30, false));
      due(FIRST, () -> fresh().best(1, FIRST, FIRST + 569, 30, false));
      due(1, () -> fresh().best(1, FIRST, FIRST + 569, 30, true));
      // At 105 minutes the person would be free, but the meeting would go on behind the piece.
      Calendarhall x = daily();
      x.edit(0, 0, 0);
      x.edit(0, 1, 100);
      due(3, () -> x.best(1, FIRST, FIRST + 134, 30, true));
      due(FIRST, () -> x.best(1, FIRST, FIRST + 134, 30, false));
      due(1, () -> x.best(1, FIRST, FIRST + 135, 30, true));
      due(FIRST + 105, () -> x.best(1, FIRST, FIRST + 135, 30, false));
    });
    of("For each of the people the cost is 3 if the person is busy at one of these minutes, otherwise 1 if one of them is no work minute of the person, otherwise 0.", () -> {
      Calendarhall x = daily();
      // Busy from 600 to 630, at work from 540 to 1020.
      int[][] want = {{570, 30, 0}, {571, 30, 3}, {629, 30, 3}, {630, 30, 0}, {540, 60, 0}, {539, 60, 1}, {539, 62, 3}, {960, 60, 0}, {961, 60, 1}, {0, 600, 1}, {1, 600, 3}};
      for (int[] w : want) for (int more : new int[] {0, 14}) due(w[2], () -> x.best(1, FIRST + w[0], FIRST + w[0] + w[1] + more, w[1], true));
      // The sum of all of them: busy, free, not at work.
      x.setPerson(2, 0, 0, 0, 1);
      due(4, () -> x.best(7, 15000, 15001, 1, true));
      due(1, () -> x.best(6, 15000, 15001, 1, true));
      due(0, () -> x.best(2, 15000, 15001, 1, true));
      x.edit(0, 2, 255);
      due(24, () -> x.best(255, 15000, 15001, 1, true));
    });
    of("- `people`: as bits, 1 to 255", () -> range(1, 255, BAD, () -> full(), (x, people) -> x.best(people, FIRST, FIRST + 1, 1, false)));
    of("- `from`: a common minute", () -> rangeOfFrom(() -> full(), (x, from, to) -> x.best(1, from, to, 1, true)));
    of("- `to`: a common minute", () -> rangeOfTo(() -> full(), (x, from, to) -> x.best(1, from, to, 1, true)));
    of("- `length`: 1 to 600", () -> range(1, 600, BAD, () -> full(), (x, length) -> x.best(1, FIRST, FIRST + DAY, length, false)));
    of("- `isCost`: whether the cost is asked, and not the minute", () -> {
      due(FIRST + 540, () -> fresh().best(255, FIRST, FIRST + DAY, 60, false));
      due(0, () -> fresh().best(255, FIRST, FIRST + DAY, 60, true));
      due(FIRST, () -> fresh().best(255, FIRST, FIRST + 60, 60, false));
      due(8, () -> fresh().best(255, FIRST, FIRST + 60, 60, true));
    });
    of("Returns the minute, or its cost; NONE if there is no such minute.", () -> {
      for (int length : new int[] {1, 15, 600}) {
        if (length > 1) due(NONE, () -> fresh().best(1, FIRST, FIRST + length - 1, length, false));
        if (length > 1) due(NONE, () -> fresh().best(1, FIRST, FIRST + length - 1, length, true));
        due(FIRST, () -> fresh().best(1, FIRST, FIRST + length, length, false));
        due(1, () -> fresh().best(1, FIRST, FIRST + length, length, true));
      }
      // The first quarter of an hour behind from.
      Calendarhall y = daily();
      y.edit(0, 0, 540);
      y.edit(0, 1, 15);
      due(FIRST + 555, () -> y.best(1, FIRST + 540, FIRST + 900, 60, false));
      due(FIRST + 555, () -> y.best(1, FIRST + 540, FIRST + 615, 60, false));
      due(FIRST + 540, () -> y.best(1, FIRST + 540, FIRST + 614, 60, false));
      // Of like ones the first; the last quarter of an hour of a whole week.
      due(FIRST, () -> fresh().best(1, FIRST, FIRST + 540, 60, false));
      Calendarhall x = fresh();
      x.setPerson(0, 0, 1, 1425, 1440);
      due(17 * DAY - 15, () -> x.best(1, 10 * DAY, 17 * DAY, 15, false));
      due(0, () -> x.best(1, 10 * DAY, 17 * DAY, 15, true));
    });
    of("Throws `IllegalArgumentException` see section 9", () -> {
      due(BAD, () -> fresh().best(0, FIRST, FIRST + 1, 1, false));
      due(BAD, () -> fresh().best(256, FIRST, FIRST + 1, 1, false));
      due(BAD, () -> fresh().best(1, FIRST, FIRST, 1, false));
      due(BAD, () -> fresh().best(1, FIRST, FIRST + 10081, 1, false));
      due(BAD, () -> fresh().best(1, FIRST, FIRST + 1, 0, false));
      due(BAD, () -> fresh().best(1, FIRST, FIRST + 1, 601, false));
    });
  }

  private static void dueClash(Calendarhall x, int clash, int... want) {
    for (int k = 0; k < 4; k++) {
      int what = k;
      due(want[k], () -> x.clashAt(clash, what));
    }
  }

  /** Three series that are on together from the minute 620 to 660 of each day, with the person 0. */
  private static Calendarhall three() {
    Calendarhall x = fresh();
    for (int k = 0; k < 3; k++) {
      x.addSeries(0, 10, 620 - 10 * k, 60, 1, true);
      x.setRule(k, 1, 1, 0, 0);
    }
    return x;
  }

  private static void clashes() {
    section("Promise 44");
    of("Looks for clashes of a person: the pairs of dates in which the person takes part, both beginning in a piece of time of at most 10080 minutes, that clash.", () -> {
      longest(10080, () -> full(), (x, from, to) -> x.clashes(0, from, to));
      Calendarhall x = three();
      due(3, () -> x.clashes(0, FIRST, FIRST + DAY));
      due(21, () -> x.clashes(0, FIRST, FIRST + 10080));
      due(3, () -> x.clashes(0, 15000, 15021));
      due(1, () -> x.clashes(0, 15000, 15020));
      due(1, () -> x.clashes(0, 15001, 15021));
      due(0, () -> x.clashes(0, 15000, 15010));
      due(0, () -> x.clashes(1, FIRST, FIRST + DAY));
      x.answer(1, 0, 2);
      due(1, () -> x.clashes(0, FIRST, FIRST + DAY));
    });
    of("They are kept, in place of those that are kept", () -> {
      Calendarhall x = three();
      x.clashes(0, FIRST, FIRST + 2 * DAY);
      // The order of dates is 2, 1, 0 on each day.
      int[][] pairs = {{2, 1}, {2, 0}, {1, 0}};
      for (int k = 0; k < 6; k++) dueClash(x, k, pairs[k % 3][0], 10 + k / 3, pairs[k % 3][1], 10 + k / 3);
      due(MISSING, () -> x.clashAt(6, 0));
      // Kept, whatever becomes of the dates; until clashes are looked for anew, though there be none.
      x.dropSeries(2);
      dueClash(x, 0, 2, 10, 1, 10);
      due(BAD, () -> x.clashes(0, FIRST, FIRST));
      due(OUT, () -> x.clashes(8, FIRST, FIRST + 1));
      dueClash(x, 5, 1, 11, 0, 11);
      due(0, () -> x.clashes(7, FIRST, FIRST + 1));
      due(MISSING, () -> x.clashAt(0, 0));
      // Two dates of one series, at the same minute: the lower day first.
      Calendarhall y = daily();
      y.move(0, 12, 10, 600);
      y.move(0, 11, 10, 629);
      due(3, () -> y.clashes(0, FIRST, FIRST + DAY));
      dueClash(y, 0, 0, 10, 0, 12);
      dueClash(y, 1, 0, 10, 0, 11);
      dueClash(y, 2, 0, 12, 0, 11);
    });
    of("- `person`: 0 to 7", () -> {
      range(0, 7, OUT, () -> full(), (x, person) -> x.clashes(person, FIRST, FIRST + 1));
      dueOfOne((x, person) -> {
        x.move(0, 11, 10, 610);
        return x.clashes(person, FIRST, FIRST + DAY);
      }, 1, 0);
    });
    of("- `from`: a common minute", () -> rangeOfFrom(() -> full(), (x, from, to) -> x.clashes(0, from, to)));
    of("- `to`: a common minute", () -> rangeOfTo(() -> full(), (x, from, to) -> x.clashes(0, from, to)));
    of("Returns how many there are.", () -> {
      due(0, () -> fresh().clashes(0, FIRST, FIRST + 10080));
      // As many as can be: 132 dates at once.
      Calendarhall x = fresh();
      for (int n = 0; n < 12; n++) {
        x.addSeries(0, 10, 600, 600, 1, false);
        x.setRule(n, 1, 1, 0, 0);
        for (int k = 0; k < 10; k++) x.move(n, 20 + k, 10, 600 + k);
      }
      due(132 * 131 / 2, () -> x.clashes(0, FIRST, FIRST + DAY));
      dueClash(x, 132 * 131 / 2 - 1, 10, 29, 11, 29);
      due(MISSING, () -> x.clashAt(132 * 131 / 2, 0));
    });
    of("Throws `IndexOutOfBoundsException` see section 9", () -> {
      noneThere(8, (x, person) -> x.clashes(person, FIRST, FIRST + 1));
      due(OUT, () -> fresh().clashes(8, 0, 0));
    });
    of("Throws `IllegalArgumentException` see section 9", () -> {
      due(BAD, () -> fresh().clashes(0, FIRST, FIRST));
      due(BAD, () -> fresh().clashes(0, FIRST, FIRST + 10081));
    });
  }

  private static Calendarhall threeClashes() {
    Calendarhall x = three();
    x.clashes(0, FIRST, FIRST + DAY);
    return x;
  }

  private static void clashAt() {
    section("Promise 45");
    of("Tells about a clash that is kept.", () -> {
      Calendarhall x = threeClashes();
      dueClash(x, 0, 2, 10, 1, 10);
      dueClash(x, 2, 1, 10, 0, 10);
    });
    of("- `clash`: from 0", () -> {
      for (int clash : new int[] {0, 2}) taken(() -> threeClashes().clashAt(clash, 0));
      for (int clash : new int[] {-1, -3, LEAST}) refused(BAD, () -> threeClashes(), x -> x.clashAt(clash, 0));
    });
    of("- `what`: 0 the series of the first date, 1 its day, 2 the series of the second date, 3 its day", () -> {
      range(0, 3, BAD, () -> threeClashes(), (x, what) -> x.clashAt(0, what));
      Calendarhall x = daily();
      x.addSeries(0, 11, 600, 30, 1, false);
      x.move(1, 11, 10, 601);
      x.clashes(0, FIRST, FIRST + DAY);
      dueClash(x, 0, 0, 10, 1, 11);
    });
    of("Returns what is asked.", () -> {
      Calendarhall x = full();
      dueClash(x, 0, 0, 10, 1, 10);
      dueClash(x, 2, 0, 12, 1, 12);
    });
    of("Throws `IllegalArgumentException` see section 9", () -> {
      due(BAD, () -> threeClashes().clashAt(0, 4));
      due(BAD, () -> threeClashes().clashAt(3, -1));
      due(BAD, () -> fresh().clashAt(0, 4));
    });
    of("Throws `NoSuchElementException` if there is no such clash", () -> {
      refused(MISSING, () -> fresh(), x -> x.clashAt(0, 0));
      refused(MISSING, () -> threeClashes(), x -> x.clashAt(3, 0));
      refused(MISSING, () -> threeClashes(), x -> x.clashAt(MOST, 3));
      // Neither one of those that were kept before.
      Calendarhall x = threeClashes();
      x.clashes(0, 15000, 15020);
      taken(() -> x.clashAt(0, 0));
      due(MISSING, () -> x.clashAt(1, 0));
    });
  }

  // ---- rooms, plans

  private static void roomsNeeded() {
    section("Promise 46");
    of("Returns the greatest number of dates that need a room, begin in a piece of time of at most 10080 minutes, and are on at one moment (also behind the piece).", () -> {
      longest(10080, () -> full(), (x, from, to) -> x.roomsNeeded(from, to));
      // They begin at 600, 610 and 620, an hour each.
      Calendarhall x = three();
      due(3, () -> x.roomsNeeded(FIRST, FIRST + DAY));
      due(3, () -> x.roomsNeeded(15000, 15021));
      due(2, () -> x.roomsNeeded(15000, 15020));
      due(2, () -> x.roomsNeeded(15001, 15021));
      due(1, () -> x.roomsNeeded(15000, 15010));
      due(0, () -> x.roomsNeeded(15021, 16440));
      // One ends at the minute at which the other one begins.
      x.edit(0, 0, 660);
      due(2, () -> x.roomsNeeded(FIRST, FIRST + DAY));
      x.edit(0, 0, 659);
      due(3, () -> x.roomsNeeded(FIRST, FIRST + DAY));
      x.edit(1, 3, 0);
      due(2, () -> x.roomsNeeded(FIRST, FIRST + DAY));
    });
    of("- `from`: a common minute", () -> rangeOfFrom(() -> full(), (x, from, to) -> x.roomsNeeded(from, to)));
    of("- `to`: a common minute", () -> rangeOfTo(() -> full(), (x, from, to) -> x.roomsNeeded(from, to)));
    of("Returns the number.", () -> {
      due(0, () -> fresh().roomsNeeded(FIRST, FIRST + 10080));
      due(0, () -> daily().roomsNeeded(FIRST, FIRST + 10080));
      Calendarhall x = fresh();
      for (int n = 0; n < 12; n++) {
        x.addSeries(0, 10, 600, 600, 0, true);
        x.setRule(n, 1, 1, 0, 0);
        for (int k = 0; k < 10; k++) x.move(n, 20 + k, 10, 600 + k);
      }
      due(132, () -> x.roomsNeeded(FIRST, FIRST + 10080));
      // People and their answers do not matter, nor do the rooms that there are.
      x.layRooms(FIRST, FIRST + 10080);
      due(12, () -> x.roomsNeeded(FIRST + DAY, FIRST + 2 * DAY));
    });
    of("Throws `IllegalArgumentException` see section 9", () -> {
      due(BAD, () -> fresh().roomsNeeded(FIRST, FIRST));
      due(BAD, () -> fresh().roomsNeeded(FIRST, FIRST + 10081));
      due(BAD, () -> fresh().roomsNeeded(LEAST, MOST));
    });
  }

  private static void layRooms() {
    section("Promise 47");
    of("Lays rooms for a piece of time of at most 10080 minutes.", () -> {
      longest(10080, () -> full(), (x, from, to) -> x.layRooms(from, to));
      Calendarhall x = three();
      x.layRooms(15000, 15020);
      due(0, () -> x.roomOf(2, 10));
      due(1, () -> x.roomOf(1, 10));
      due(MISSING, () -> x.roomOf(0, 10));
      x.layRooms(15001, 15021);
      due(MISSING, () -> x.roomOf(2, 10));
      due(0, () -> x.roomOf(1, 10));
      due(1, () -> x.roomOf(0, 10));
    });
    of("- `from`: a common minute", () -> rangeOfFrom(() -> full(), (x, from, to) -> x.layRooms(from, to)));
    of("- `to`: a common minute", () -> rangeOfTo(() -> full(), (x, from, to) -> x.layRooms(from, to)));
    of("Returns how many dates that need a room got none.", () -> {
      due(0, () -> fresh().layRooms(FIRST, FIRST + 10080));
      for (int count = 0; count <= 12; count++) {
        Calendarhall x = fresh();
        for (int k = 0; k < count; k++) x.addSeries(0, 10, 600, 600, 0, true);
        due(Math.max(0, count - 4), () -> x.layRooms(FIRST, FIRST + DAY));
      }
      Calendarhall x = fresh();
      for (int n = 0; n < 12; n++) {
        x.addSeries(0, 10, 600, 600, 0, true);
        x.setRule(n, 1, 1, 0, 0);
        for (int k = 0; k < 10; k++) x.move(n, 20 + k, 10, 600 + k);
      }
      due(132 - 4 + 6 * 8, () -> x.layRooms(FIRST, FIRST + 10080));
    });
    of("Throws `IllegalArgumentException` see section 9", () -> {
      Calendarhall x = three();
      x.layRooms(FIRST, FIRST + DAY);
      due(BAD, () -> x.layRooms(FIRST, FIRST));
      due(BAD, () -> x.layRooms(FIRST, FIRST + 10081));
      due(0, () -> x.roomOf(2, 10));
    });
  }

  private static void roomOf() {
    section("Promise 48");
    of("Returns the room that a date got by the latest layRooms().", () -> {
      Calendarhall x = three();
      x.layRooms(FIRST, FIRST + DAY);
      int[] want = {2, 1, 0};
      for (int k = 0; k < 3; k++) {
        int series = k;
        due(want[k], () -> x.roomOf(series, 10));
        due(MISSING, () -> x.roomOf(series, 11));
      }
      x.layRooms(FIRST + DAY, FIRST + 2 * DAY);
      due(MISSING, () -> x.roomOf(0, 10));
      due(2, () -> x.roomOf(0, 11));
    });
    of("- `series`: the number of the series then", () -> {
      Calendarhall x = three();
      x.layRooms(FIRST, FIRST + DAY);
      x.dropSeries(1);
      due(1, () -> x.roomOf(1, 10));
      x.addSeries(0, 50, 0, 1, 0, false);
      due(1, () -> x.roomOf(1, 10));
      for (int series : new int[] {3, 12, -1, LEAST, MOST}) due(MISSING, () -> x.roomOf(series, 10));
    });
    of("- `day`: the day of the date", () -> {
      // The day by which the date is told, not the one that it was moved to.
      Calendarhall x = three();
      x.move(0, 11, 10, 0);
      x.layRooms(FIRST, FIRST + DAY);
      due(0, () -> x.roomOf(0, 11));
      due(2, () -> x.roomOf(0, 10));
      for (int day : new int[] {12, 9, 146001, -1, LEAST, MOST}) due(MISSING, () -> x.roomOf(0, day));
    });
    of("Returns the room; NONE if it got none.", () -> {
      Calendarhall x = fresh();
      for (int k = 0; k < 6; k++) x.addSeries(0, 10, 600, 60, 0, true);
      x.layRooms(FIRST, FIRST + DAY);
      for (int k = 0; k < 6; k++) {
        int series = k;
        due(k < 4 ? k : NONE, () -> x.roomOf(series, 10));
      }
    });
    of("Throws `NoSuchElementException` if it was none of the dates for which rooms were laid", () -> {
      refused(MISSING, () -> fresh(), x -> x.roomOf(0, 10));
      refused(MISSING, () -> full(), x -> x.roomOf(2, 12));
      refused(MISSING, () -> full(), x -> x.roomOf(0, 13));
      // Left out when rooms were laid, in need of none, or outside of the piece.
      Calendarhall x = three();
      x.leaveOut(0, 10);
      x.edit(1, 3, 0);
      x.layRooms(FIRST, FIRST + DAY);
      due(MISSING, () -> x.roomOf(0, 10));
      due(MISSING, () -> x.roomOf(1, 10));
      due(0, () -> x.roomOf(2, 10));
      due(MISSING, () -> x.roomOf(2, 11));
    });
  }

  /** So many series of an hour at the minute 600 of the day 10, with the person 0. */
  private static Calendarhall atOnce(int count) {
    Calendarhall x = fresh();
    for (int k = 0; k < count; k++) x.addSeries(0, 10, 600, 60, 1, false);
    return x;
  }

  private static void plan() {
    section("Promise 49");
    of("Makes a plan for the dates of some series that begin in a piece of time of at most 10080 minutes.", () -> {
      longest(10080, () -> full(), (x, from, to) -> x.plan(2048, from, to));
      Calendarhall x = atOnce(2);
      x.edit(1, 0, 630);
      due(30, () -> x.plan(3, 15000 - 30, 15031));
      due(0, () -> x.plan(3, 15000 - 30, 15030));
      due(MISSING, () -> x.planAt(1, 0));
      due(0, () -> x.plan(3, 15001, 15031));
      due(1, () -> x.planAt(0, 0));
      due(MISSING, () -> x.planAt(1, 0));
    });
    of("- `series`: the series, as bits, 1 to 4095; numbers that no series has do not count", () -> {
      range(1, 4095, BAD, () -> full(), (x, series) -> x.plan(series, FIRST, FIRST + DAY));
      Calendarhall x = atOnce(2);
      due(60, () -> x.plan(4095, FIRST, FIRST + DAY));
      due(0, () -> x.plan(4092, FIRST, FIRST + DAY));
      due(MISSING, () -> x.planAt(0, 0));
      due(0, () -> x.plan(2, FIRST, FIRST + DAY));
      due(1, () -> x.planAt(0, 0));
      due(0, () -> x.plan(4093, FIRST, FIRST + DAY));
      due(0, () -> x.planAt(0, 0));
      Calendarhall y = fresh();
      for (int k = 0; k < 12; k++) y.addSeries(0, 10 + k, 600, 60, 1, false);
      for (int k = 0; k < 12; k++) {
        int series = k;
        due(0, () -> y.plan(1 << series, (10 + series) * DAY, (11 + series) * DAY));
        due(series, () -> y.planAt(0, 0));
      }
    });
    of("- `from`: a common minute", () -> rangeOfFrom(() -> full(), (x, from, to) -> x.plan(1, from, to)));
    of("- `to`: a common minute", () -> rangeOfTo(() -> full(), (x, from, to) -> x.plan(1, from, to)));
    of("Returns how many minutes the dates are moved, in all; NONE if there is no such plan (none is kept then).", () -> {
      int[] want = {0, 0, 60, 120, 240, 360};
      for (int k = 0; k <= 5; k++) {
        int count = k;
        due(want[k], () -> atOnce(count).plan(31, FIRST, FIRST + DAY));
      }
      Calendarhall x = atOnce(2);
      due(60, () -> x.plan(3, FIRST, FIRST + DAY));
      due(NONE, () -> x.plan(3, 15000, 15001));
      due(MISSING, () -> x.planAt(0, 0));
      due(STATE, () -> x.applyPlan());
      // A plan without dates is one.
      due(0, () -> fresh().plan(1, FIRST, FIRST + 1));
      Calendarhall y = fresh();
      y.plan(1, FIRST, FIRST + 1);
      due(0, () -> y.applyPlan());
    });
    of("Throws `IllegalArgumentException` see section 9", () -> {
      due(BAD, () -> atOnce(6).plan(0, FIRST, FIRST + DAY));
      due(BAD, () -> atOnce(6).plan(4096, FIRST, FIRST + DAY));
      due(BAD, () -> atOnce(6).plan(63, FIRST, FIRST));
      due(BAD, () -> atOnce(6).plan(63, FIRST, FIRST + 10081));
    });
    of("Throws `IllegalStateException` if there are more than 5 such dates", () -> {
      due(STATE, () -> atOnce(6).plan(63, FIRST, FIRST + DAY));
      due(360, () -> atOnce(6).plan(62, FIRST, FIRST + DAY));
      due(STATE, () -> daily().plan(1, FIRST, FIRST + 6 * DAY));
      due(0, () -> daily().plan(1, FIRST, FIRST + 5 * DAY));
      // Those that are left out are none; and the plan that was kept stays.
      Calendarhall x = daily();
      x.plan(1, FIRST, FIRST + DAY);
      due(STATE, () -> x.plan(1, FIRST, FIRST + 7 * DAY));
      due(15000, () -> x.planAt(0, 2));
      x.leaveOut(0, 12);
      due(STATE, () -> x.plan(1, FIRST, FIRST + 7 * DAY));
      x.leaveOut(0, 13);
      due(0, () -> x.plan(1, FIRST, FIRST + 7 * DAY));
      due(16, () -> x.planAt(4, 1));
    });
  }

  private static Calendarhall planned() {
    Calendarhall x = atOnce(2);
    x.plan(3, FIRST, FIRST + DAY);
    return x;
  }

  private static void planAt() {
    section("Promise 50");
    of("Tells about a date of the plan.", () -> {
      Calendarhall x = planned();
      int[][] want = {{0, 10, 14940}, {1, 10, 15000}};
      for (int k = 0; k < 2; k++) for (int w = 0; w < 3; w++) {
        int place = k, what = w;
        due(want[k][w], () -> x.planAt(place, what));
      }
    });
    of("- `place`: its place in the order that the dates had when the plan was made, from 0", () -> {
      for (int place : new int[] {-1, -2, LEAST}) refused(BAD, () -> planned(), x -> x.planAt(place, 0));
      for (int place : new int[] {0, 1}) taken(() -> planned().planAt(place, 0));
      // The order then, by the begins then: also if the plan turns it, or the dates are moved afterwards.
      Calendarhall x = atOnce(2);
      x.edit(0, 0, 601);
      x.edit(1, 1, 90);
      x.edit(0, 1, 30);
      due(60, () -> x.plan(3, 15000, 15062));
      x.edit(1, 0, 0);
      due(1, () -> x.planAt(0, 0));
      due(0, () -> x.planAt(1, 0));
    });
    of("- `what`: 0 its series, 1 its day, 2 the common minute at which it begins by the plan", () -> {
      range(0, 2, BAD, () -> planned(), (x, what) -> x.planAt(0, what));
      Calendarhall x = daily();
      x.move(0, 12, 11, 0);
      x.plan(1, FIRST + DAY, FIRST + DAY + 1);
      int[] want = {0, 12, FIRST + DAY};
      for (int k = 0; k < 3; k++) {
        int what = k;
        due(want[k], () -> x.planAt(0, what));
      }
    });
    of("Returns what is asked.", () -> {
      Calendarhall x = full();
      due(0, () -> x.planAt(0, 0));
      due(1, () -> x.planAt(1, 0));
      due(11, () -> x.planAt(1, 1));
    });
    of("Throws `IllegalArgumentException` see section 9", () -> {
      due(BAD, () -> planned().planAt(0, 3));
      due(BAD, () -> planned().planAt(2, -1));
      due(BAD, () -> fresh().planAt(0, 3));
    });
    of("Throws `NoSuchElementException` if no plan is kept, or it has no such date", () -> {
      refused(MISSING, () -> fresh(), x -> x.planAt(0, 0));
      refused(MISSING, () -> planned(), x -> x.planAt(2, 0));
      refused(MISSING, () -> planned(), x -> x.planAt(MOST, 2));
      Calendarhall x = planned();
      x.plan(3, 15000, 15001);
      due(MISSING, () -> x.planAt(0, 0));
      Calendarhall y = planned();
      y.plan(1, FIRST, FIRST + DAY);
      taken(() -> y.planAt(0, 0));
      due(MISSING, () -> y.planAt(1, 0));
      y.applyPlan();
      due(MISSING, () -> y.planAt(0, 0));
    });
  }

  // ---- clock, rings, devices

  private static void now() {
    section("Promise 51");
    of("Returns what the clock of the hall tells.", () -> {
      due(14400, () -> fresh().now());
      Calendarhall x = fresh();
      x.pass(1440);
      x.pass(1);
      due(15841, () -> x.now());
      x.undo();
      due(15840, () -> x.now());
    });
    of("Returns the common minute.", () -> {
      // Of no zone: zones do not matter.
      Calendarhall x = fresh();
      for (int zone = 0; zone < 3; zone++) x.setZone(zone, 840, 120);
      due(14400, () -> x.now());
    });
  }

  private static void nextRing() {
    section("Promise 52");
    of("Returns the first minute behind the clock at which a reminder rings, as the series is now, snoozed rings apart.", () -> {
      Calendarhall x = daily();
      x.remind(0, 600);
      x.remind(0, 599);
      // The ring at 14400 is not behind the clock.
      due(15840, () -> x.nextRing(0));
      due(14401, () -> x.nextRing(1));
      x.pass(1);
      due(15841, () -> x.nextRing(1));
      x.snooze(0, 5);
      due(15841, () -> x.nextRing(1));
      x.edit(0, 0, 601);
      due(14402, () -> x.nextRing(1));
      x.move(0, 30, 10, 610);
      x.leaveOut(0, 10);
      due(14411, () -> x.nextRing(1));
    });
    of("- `reminder`: its number", () -> {
      range(0, 9, OUT, () -> {
        Calendarhall x = daily();
        for (int k = 0; k < 10; k++) x.remind(0, k);
        return x;
      }, (x, reminder) -> x.nextRing(reminder));
    });
    of("Returns the common minute; NONE if there is no such series or no such minute.", () -> {
      Calendarhall x = fresh();
      x.addSeries(0, 10, 1, 1, 0, false);
      x.remind(0, 0);
      x.remind(0, 1);
      due(14401, () -> x.nextRing(0));
      due(NONE, () -> x.nextRing(1));
      x.pass(1);
      due(NONE, () -> x.nextRing(0));
      x.edit(0, 0, 2);
      due(14402, () -> x.nextRing(0));
      x.leaveOut(0, 10);
      due(NONE, () -> x.nextRing(0));
      x.bringBack(0, 10);
      x.dropSeries(0);
      due(NONE, () -> x.nextRing(0));
      // Also behind the last minute that calls take, and far ahead of it.
      x.setZone(2, -720, 0);
      x.addSeries(2, 146000, 1439, 1, 0, false);
      due(210242159, () -> x.nextRing(0));
      due(210242158, () -> x.nextRing(1));
    });
    of("Throws `IndexOutOfBoundsException` see section 9", () -> {
      noneThere(2, (x, reminder) -> x.nextRing(reminder));
      due(OUT, () -> fresh().nextRing(0));
      Calendarhall x = daily();
      x.remind(0, 0);
      x.forget(0);
      due(OUT, () -> x.nextRing(0));
    });
  }

  private static void rings() {
    section("Promise 53");
    of("Counts the rings that are kept.", () -> {
      Calendarhall x = daily();
      x.remind(0, 0);
      due(0, () -> x.rings());
      x.pass(599);
      due(0, () -> x.rings());
      x.pass(1);
      due(1, () -> x.rings());
      x.snooze(0, 1);
      due(1, () -> x.rings());
      x.pass(1);
      due(2, () -> x.rings());
    });
    of("Returns 0 to 30.", () -> {
      Calendarhall x = daily();
      for (int k = 0; k < 10; k++) x.remind(0, 0);
      for (int k = 0; k < 4; k++) {
        int days = k;
        due(10 * days, () -> x.rings());
        x.pass(1440);
      }
      due(30, () -> x.rings());
    });
  }

  private static void ringAt() {
    section("Promise 54");
    of("Tells about a ring that is kept.", () -> {
      // The latest thirty of forty: the eldest one is the first one of the day 11.
      Calendarhall x = daily();
      for (int k = 0; k < 10; k++) x.remind(0, 0);
      for (int k = 0; k < 4; k++) x.pass(1440);
      for (int k = 0; k < 30; k++) {
        int ring = k;
        due(ring % 10, () -> x.ringAt(ring, 0));
        due(11 + ring / 10, () -> x.ringAt(ring, 1));
        due((11 + ring / 10) * DAY + 600, () -> x.ringAt(ring, 2));
      }
      // Whatever becomes of the reminder and the series.
      x.forget(9);
      x.dropSeries(0);
      due(9, () -> x.ringAt(29, 0));
      due(13, () -> x.ringAt(29, 1));
    });
    of("- `ring`: its number", () -> {
      range(0, 0, OUT, () -> rung(), (x, ring) -> x.ringAt(ring, 0));
      Calendarhall x = daily();
      for (int k = 0; k < 10; k++) x.remind(0, 0);
      for (int k = 0; k < 4; k++) x.pass(1440);
      taken(() -> x.ringAt(29, 0));
      for (int ring : new int[] {30, 31, 40, -1, LEAST, MOST}) due(OUT, () -> x.ringAt(ring, 0));
    });
    of("- `what`: 0 its reminder, 1 the day of its date, 2 the common minute at which it came, 3 whether it had been snoozed (1, 0)", () -> {
      range(0, 3, BAD, () -> rung(), (x, what) -> x.ringAt(0, what));
      Calendarhall x = rung();
      x.snooze(0, 10);
      x.pass(10);
      int[][] want = {{1, 12, 15000, 0}, {1, 12, 15020, 1}};
      for (int k = 0; k < 2; k++) for (int w = 0; w < 4; w++) {
        int ring = k, what = w;
        due(want[k][w], () -> x.ringAt(ring, what));
      }
    });
    of("Returns what is asked.", () -> {
      Calendarhall x = full();
      due(0, () -> x.ringAt(0, 0));
      due(14410, () -> x.ringAt(0, 2));
      due(14410, () -> x.ringAt(1, 2));
    });
    of("Throws `IndexOutOfBoundsException` see section 9", () -> {
      due(OUT, () -> fresh().ringAt(0, 4));
      due(OUT, () -> rung().ringAt(1, -1));
      refused(OUT, () -> rung(), x -> x.ringAt(1, 0));
    });
    of("Throws `IllegalArgumentException` see section 9", () -> {
      due(BAD, () -> rung().ringAt(0, 4));
      due(BAD, () -> rung().ringAt(0, -1));
    });
  }

  /** One ring, of the reminder 1, for a date of the day 12 that was moved, at 15000; the clock at 15010. */
  private static Calendarhall rung() {
    Calendarhall x = daily();
    x.remind(0, 0);
    x.remind(0, 0);
    x.forget(0);
    x.leaveOut(0, 10);
    x.move(0, 12, 10, 600);
    x.pass(610);
    return x;
  }

  private static void shown() {
    section("Promise 55");
    of("Returns what a device shows for a field.", () -> {
      Calendarhall x = fresh();
      int count = 0;
      for (int n = 0; n < 12; n += 11) for (int f = 0; f < 4; f++) x.change(1, n, f, 50 * n + count++);
      for (int n = 0; n < 12; n += 11) for (int f = 0; f < 4; f++) {
        int number = n, field = f;
        due(50 * n + (n == 0 ? f : 4 + f), () -> x.shown(1, number, field));
      }
    });
    of("- `device`: 0 or 1", () -> range(0, 1, OUT, () -> full(), (x, device) -> x.shown(device, 0, 0)));
    of("- `number`: 0 to 11", () -> range(0, 11, BAD, () -> full(), (x, number) -> x.shown(0, number, 0)));
    of("- `field`: 0 to 3", () -> range(0, 3, BAD, () -> full(), (x, field) -> x.shown(0, 0, field)));
    of("Returns the value; NONE without a change.", () -> {
      Calendarhall x = fresh();
      due(NONE, () -> x.shown(0, 0, 0));
      x.change(0, 0, 0, 0);
      due(0, () -> x.shown(0, 0, 0));
      due(NONE, () -> x.shown(1, 0, 0));
      due(NONE, () -> x.shown(0, 0, 1));
      due(NONE, () -> x.shown(0, 1, 0));
      x.change(0, 0, 0, 999);
      due(999, () -> x.shown(0, 0, 0));
      x.undo();
      x.undo();
      due(NONE, () -> x.shown(0, 0, 0));
    });
    of("Throws `IndexOutOfBoundsException` see section 9", () -> {
      noneThere(2, (x, device) -> x.shown(device, 0, 0));
      due(OUT, () -> fresh().shown(2, 12, 4));
    });
    of("Throws `IllegalArgumentException` see section 9", () -> {
      due(BAD, () -> fresh().shown(0, 12, 0));
      due(BAD, () -> fresh().shown(0, -1, 0));
      due(BAD, () -> fresh().shown(1, 0, 4));
      due(BAD, () -> fresh().shown(1, 0, -1));
    });
  }

  private static void areAlike() {
    section("Promise 56");
    of("Tells whether both devices show the same for all fields.", () -> {
      int[][] fields = {{0, 0}, {0, 3}, {11, 0}, {11, 3}, {5, 2}};
      for (int[] f : fields) for (int k = 0; k < 2; k++) {
        int device = k;
        Calendarhall x = fresh();
        x.change(device, f[0], f[1], 0);
        due(false, () -> x.areAlike());
        x.deliver(device, 0);
        due(true, () -> x.areAlike());
        x.change(1 - device, f[0], f[1], 1);
        due(false, () -> x.areAlike());
        x.undo();
        due(true, () -> x.areAlike());
      }
    });
    of("Returns true if they do.", () -> {
      due(true, () -> fresh().areAlike());
      // The same value by different changes; the same changes in another order.
      Calendarhall x = fresh();
      x.change(0, 0, 0, 7);
      x.change(0, 0, 0, 8);
      x.change(1, 0, 0, 8);
      due(true, () -> x.areAlike());
      x.change(1, 0, 0, 9);
      x.deliver(0, 1);
      x.deliver(1, 1);
      x.deliver(0, 0);
      x.deliver(1, 0);
      due(true, () -> x.areAlike());
      due(9, () -> x.shown(0, 0, 0));
    });
  }

  // ---- text

  private static Calendarhall typed(int blanks) {
    Calendarhall x = fresh();
    type(x, " ".repeat(blanks));
    return x;
  }

  private static void type() {
    section("Promise 57");
    of("Puts up to eight bytes behind the text: the bytes of a number, the highest first, without those that are 0.", () -> {
      Calendarhall x = fresh();
      due(4, () -> x.type(0x6f6e6365L));
      due(NONE, () -> x.errorPlace());
      x.clearText();
      due(2, () -> x.type(0x6f0000000000006eL));
      due(4, () -> x.type(0x0063000000650000L));
      due(NONE, () -> x.errorPlace());
      due(12, () -> x.type(0x20666f7220202031L));
      due(NONE, () -> x.errorPlace());
      // All eight, none, and the highest bit of each.
      due(8, () -> fresh().type(-1L));
      due(0, () -> fresh().type(0L));
      due(8, () -> fresh().type(0x8080808080808080L));
      due(8, () -> fresh().type(0x0101010101010101L));
      for (int k = 0; k < 8; k++) {
        int shift = 8 * k;
        due(1, () -> fresh().type(255L << shift));
        due(7, () -> fresh().type(~(255L << shift)));
      }
    });
    of("- `bytes`: the number", () -> {
      due(1, () -> fresh().type(Long.MIN_VALUE));
      due(8, () -> fresh().type(Long.MAX_VALUE));
      due(8, () -> fresh().type(-1L));
      due(1, () -> fresh().type(1L));
      due(1, () -> fresh().type(255L));
      due(1, () -> fresh().type(256L));
    });
    of("Returns the length of the text.", () -> {
      Calendarhall x = fresh();
      due(0, () -> x.type(0));
      due(1, () -> x.type(65));
      due(9, () -> x.type(-1L));
      due(9, () -> x.type(0));
    });
    of("Throws `IllegalStateException` if it would have more than 120 bytes", () -> {
      due(120, () -> typed(112).type(-1L));
      refused(STATE, () -> typed(113), x -> x.type(-1L));
      due(120, () -> typed(113).type(-1L >>> 8));
      due(120, () -> typed(119).type(1));
      refused(STATE, () -> typed(119), x -> x.type(257));
      refused(STATE, () -> typed(120), x -> x.type(1));
      due(120, () -> typed(120).type(0));
      // What is refused is refused whole.
      Calendarhall x = typed(118);
      due(STATE, () -> x.type(0x616161L));
      due(118, () -> x.errorPlace());
      due(120, () -> x.type(0x6161L));
    });
  }

  private static void clearText() {
    section("Promise 58");
    of("Empties the text.", () -> {
      Calendarhall x = typed(120);
      x.clearText();
      due(0, () -> x.type(0));
      due(0, () -> x.errorPlace());
      due(4, () -> x.type(0x6f6e6365L));
      due(NONE, () -> x.errorPlace());
    });
    of("Returns its length before.", () -> {
      due(0, () -> fresh().clearText());
      due(1, () -> typed(1).clearText());
      Calendarhall x = typed(120);
      due(120, () -> x.clearText());
      due(0, () -> x.clearText());
    });
  }

  private static void errorPlace() {
    section("Promise 59");
    of("Returns the place of the error of the text, if a last day may be any one from 10 to 146000.", () -> {
      Object[][] texts = {{"once until 9", 11}, {"once until 10", NONE}, {"once until 146000", NONE}, {"once until 146001", 11}, {"every days until 0", 17}};
      for (Object[] t : texts) {
        // Whatever the first days of the series are.
        Calendarhall x = fresh();
        x.addSeries(0, 500, 0, 1, 0, false);
        type(x, (String) t[0]);
        due(t[1], () -> x.errorPlace());
      }
    });
    of("Returns the index of a byte, or the length of the text; NONE without an error.", () -> {
      due(0, () -> fresh().errorPlace());
      due(120, () -> typed(120).errorPlace());
      Calendarhall x = typed(119);
      x.type('!');
      due(119, () -> x.errorPlace());
      Calendarhall y = typed(116);
      type(y, "once");
      due(NONE, () -> y.errorPlace());
      Calendarhall z = fresh();
      z.type('!');
      due(0, () -> z.errorPlace());
      // The text stays.
      due(0, () -> z.errorPlace());
      due(1, () -> z.clearText());
    });
  }

  private static void write() {
    section("Promise 60");
    of("Writes the rule and the end of a series, in place of what was written before.", () -> {
      Calendarhall x = full();
      due("every days", () -> written(x, 0));
      due("every weeks on mo tu we th fr", () -> written(x, 1));
      due("once", () -> written(x, 2));
      due(MISSING, () -> x.writtenAt(4));
      // It has nothing to do with the text.
      due(12, () -> x.type(0));
      due(NONE, () -> x.errorPlace());
    });
    of("- `series`: its number", () -> range(0, 11, OUT, () -> twelve(), (x, series) -> x.write(series)));
    of("Returns how many bytes it has.", () -> {
      due(4, () -> full().write(2));
      due(10, () -> full().write(0));
      // The longest one.
      Calendarhall x = daily();
      x.setRule(0, 4, 99, 127, 2);
      x.setEnd(0, 2, 146000);
      due("every 99 months on second mo tu we th fr sa su until 146000".length(), () -> x.write(0));
      due("every 99 months on second mo tu we th fr sa su until 146000", () -> written(x, 0));
    });
    of("Throws `IndexOutOfBoundsException` see section 9", () -> {
      noneThere(3, (x, series) -> x.write(series));
      due(OUT, () -> fresh().write(0));
    });
  }

  private static void writtenAt() {
    section("Promise 61");
    of("Returns a byte of what was written last.", () -> {
      Calendarhall x = full();
      x.write(0);
      String want = "every days";
      for (int k = 0; k < want.length(); k++) {
        int place = k;
        due((int) want.charAt(place), () -> x.writtenAt(place));
      }
      // It stays, whatever becomes of the series.
      x.dropSeries(0);
      due((int) 's', () -> x.writtenAt(9));
      due(OUT, () -> x.write(0));
      due((int) 's', () -> x.writtenAt(9));
    });
    of("- `place`: from 0", () -> {
      taken(() -> full().writtenAt(0));
      for (int place : new int[] {-1, LEAST}) refused(MISSING, () -> full(), x -> x.writtenAt(place));
    });
    of("Returns the byte.", () -> {
      due((int) 'e', () -> full().writtenAt(0));
      due(32, () -> full().writtenAt(5));
      due((int) 'r', () -> full().writtenAt(28));
    });
    of("Throws `NoSuchElementException` if there is no such byte", () -> {
      refused(MISSING, () -> fresh(), x -> x.writtenAt(0));
      // The full hall has written "every weeks on mo tu we th fr".
      refused(MISSING, () -> full(), x -> x.writtenAt(29));
      refused(MISSING, () -> full(), x -> x.writtenAt(MOST));
    });
  }

  // ---- measures

  private static void busyShare() {
    section("Promise 62");
    of("Returns the share of the work minutes of a person, in a piece of time of at most 20160 minutes, at which the person is busy.", () -> {
      longest(20160, () -> full(), (x, from, to) -> x.busyShare(0, from, to));
      due(300.0 / 4800.0, () -> daily().busyShare(0, FIRST, FIRST + 20160));
      // Busy outside of the work hours does not count.
      Calendarhall x = daily();
      x.edit(0, 0, 525);
      due(15.0 / 480.0, () -> x.busyShare(0, FIRST, FIRST + DAY));
    });
    of("- `person`: 0 to 7", () -> {
      range(0, 7, OUT, () -> full(), (x, person) -> x.busyShare(person, FIRST, FIRST + 1));
      dueOfOne((x, person) -> x.busyShare(person, FIRST, FIRST + DAY), 30.0 / 480.0, 0.0);
    });
    of("- `from`: a common minute", () -> rangeOfFrom(() -> full(), (x, from, to) -> x.busyShare(0, from, to)));
    of("- `to`: a common minute", () -> rangeOfTo(() -> full(), (x, from, to) -> x.busyShare(0, from, to)));
    of("Returns their number as a double, divided by the number of work minutes as a double; 0.0 without any.", () -> {
      due(0.0, () -> daily().busyShare(0, FIRST, FIRST + 540));
      due(0.0, () -> daily().busyShare(0, FIRST, FIRST + 541));
      due(1.0, () -> daily().busyShare(0, 15000, 15030));
      due(1.0, () -> daily().busyShare(0, 15000, 15001));
      due(0.0, () -> daily().busyShare(0, 14999, 15000));
      due(0.5, () -> daily().busyShare(0, 14999, 15001));
      due(30.0 / 31.0, () -> daily().busyShare(0, 15000, 15031));
      due(1.0 / 3.0, () -> daily().busyShare(0, 15029, 15032));
      due(0.0, () -> daily().busyShare(1, 15000, 15030));
      Calendarhall x = daily();
      x.setPerson(0, 0, 0, 0, 1440);
      due(0.0, () -> x.busyShare(0, 15000, 15030));
    });
    of("Throws `IndexOutOfBoundsException` see section 9", () -> {
      noneThere(8, (x, person) -> x.busyShare(person, FIRST, FIRST + 1));
      due(OUT, () -> fresh().busyShare(8, 0, 0));
    });
    of("Throws `IllegalArgumentException` see section 9", () -> {
      due(BAD, () -> fresh().busyShare(0, FIRST, FIRST));
      due(BAD, () -> fresh().busyShare(0, FIRST, FIRST + 20161));
    });
  }

  private static void meanLength() {
    section("Promise 63");
    of("Returns the mean length of the series.", () -> {
      Calendarhall x = fresh();
      x.addSeries(0, 10, 0, 1, 0, false);
      due(1.0f, () -> x.meanLength());
      x.addSeries(0, 10, 0, 600, 0, false);
      due(300.5f, () -> x.meanLength());
    });
    of("Returns the sum of their lengths as a float, divided by their number as a float; 0.0f without any.", () -> {
      due(0.0f, () -> fresh().meanLength());
      Calendarhall x = fresh();
      int sum = 0;
      for (int k = 0; k < 12; k++) {
        x.addSeries(0, 10, 0, 600 - k * k, 0, false);
        sum += 600 - k * k;
        float want = (float) sum / (float) (k + 1);
        due(want, () -> x.meanLength());
      }
      for (int k = 0; k < 12; k++) x.dropSeries(k);
      due(0.0f, () -> x.meanLength());
    });
  }

  private static void checksum() {
    section("Promise 64");
    of("Returns a number of the dates of all series that begin in a piece of time of at most 10080 minutes", () -> {
      longest(10080, () -> full(), (x, from, to) -> x.checksum(from, to));
      due((17L * 31 + 15000) * 31, () -> daily().checksum(15000, 15001));
      due(17L, () -> daily().checksum(14999, 15000));
      due(17L, () -> daily().checksum(15001, 15002));
      // The same for a date that was moved.
      Calendarhall x = daily();
      x.move(0, 11, 10, 700);
      due((17L * 31 + 15100) * 31, () -> x.checksum(15100, 15101));
      due(17L, () -> x.checksum(15099, 15100));
      due(17L, () -> x.checksum(15101, 15102));
      // Longs that go round: 7 dates are more than 13 times 31 times 31.
      long sum = 17;
      for (int d = 10; d < 17; d++) for (int n = 0; n < 3; n++) sum = 31 * (31 * sum + d * DAY + 600 + 10 * n) + 2 - n;
      long want = sum;
      due(want, () -> three().checksum(FIRST, FIRST + 10080));
    });
    of("- `from`: a common minute", () -> rangeOfFrom(() -> full(), (x, from, to) -> x.checksum(from, to)));
    of("- `to`: a common minute", () -> rangeOfTo(() -> full(), (x, from, to) -> x.checksum(from, to)));
    of("Returns the number.", () -> {
      due(17L, () -> fresh().checksum(FIRST, FIRST + 10080));
      // Also of dates in which nobody takes part, and not of those that are left out.
      Calendarhall x = three();
      for (int k = 0; k < 3; k++) x.edit(k, 2, 0);
      x.leaveOut(0, 10);
      x.leaveOut(2, 10);
      due((17L * 31 + 15010) * 31 + 1, () -> x.checksum(FIRST, FIRST + DAY));
    });
    of("Throws `IllegalArgumentException` see section 9", () -> {
      due(BAD, () -> fresh().checksum(FIRST, FIRST));
      due(BAD, () -> fresh().checksum(FIRST, FIRST + 10081));
      due(BAD, () -> fresh().checksum(LAST, LAST));
    });
  }

  private static void errors() {
    section("Promise 65");
    of("Looks for errors: the series for which, of the 800 days from its first day on", () -> {
      // Each kind of rule with each end, also where the 800 days reach behind the day 146000.
      int[][] rules = {{0, 0, 0, 0}, {1, 1, 0, 0}, {1, 99, 0, 0}, {2, 1, 127, 0}, {2, 99, 65, 0}, {3, 1, 0, 31}, {3, 1, 0, -31}, {4, 1, 1, 5}, {4, 1, 127, -5}, {5, 1, 0, 0}};
      for (int[] r : rules) for (int first : new int[] {10, 59, 145201, 145999, 146000}) {
        Calendarhall x = fresh();
        x.addSeries(0, first, 0, 1, 0, false);
        x.setRule(0, r[0], r[1], r[2], r[3]);
        due(0, () -> x.errors());
        x.setEnd(0, 1, 1);
        due(0, () -> x.errors());
        x.setEnd(0, 1, 500);
        due(0, () -> x.errors());
        x.setEnd(0, 2, first);
        due(0, () -> x.errors());
        x.setEnd(0, 2, Math.min(146000, first + 400));
        due(0, () -> x.errors());
      }
    });
    of("Returns how many series and zones there are; always 0.", () -> {
      due(0, () -> fresh().errors());
      due(0, () -> full().errors());
      due(0, () -> twelve().errors());
      Calendarhall x = fresh();
      int[][] zones = {{-720, 120}, {840, 15}, {0, 60}};
      for (int zone = 0; zone < 3; zone++) x.setZone(zone, zones[zone][0], zones[zone][1]);
      due(0, () -> x.errors());
      x.setSwitch(0, true, 12, 5, 6, 1439);
      x.setSwitch(1, false, 1, 1, 0, 0);
      x.setSwitch(1, true, 2, 1, 0, 0);
      due(0, () -> x.errors());
    });
  }
}
