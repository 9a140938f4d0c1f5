import java.time.DayOfWeek;
import java.time.LocalDate;
import java.time.LocalDateTime;
import java.time.temporal.ChronoUnit;
import java.time.temporal.TemporalAdjusters;
import java.util.ArrayList;
import java.util.Arrays;
import java.util.Comparator;
import java.util.HashMap;
import java.util.HashSet;
import java.util.List;
import java.util.Map;
import java.util.NoSuchElementException;
import java.util.Set;
import java.util.TreeMap;
import java.util.regex.Matcher;
import java.util.regex.Pattern;

/**
 * The document's words once more, in the slowest and plainest form: each day is looked at by the
 * Java library's calendar, each minute for itself, each plan tried. RandomRuns compares with it.
 */
final class Model {
  static final int NONE = -1;
  static final LocalDate START = LocalDate.of(2000, 1, 1);
  static final int ALL = 146097;
  static final int[] YEAR = new int[ALL], MONTH = new int[ALL], NUMBER = new int[ALL], WEEKDAY = new int[ALL], LENGTH = new int[ALL];
  static {
    LocalDate at = START;
    for (int d = 0; d < ALL; d++, at = at.plusDays(1)) {
      YEAR[d] = at.getYear();
      MONTH[d] = at.getMonthValue();
      NUMBER[d] = at.getDayOfMonth();
      WEEKDAY[d] = at.getDayOfWeek().getValue() - 1;
      LENGTH[d] = at.lengthOfMonth();
    }
  }

  static final class Series {
    int zone, first, minute, length, people, kind, step, days, place, how, number;
    boolean room;
    TreeMap<Integer, Integer> exceptions = new TreeMap<>();
    int[] answers = new int[8], counters = {NONE, NONE, NONE, NONE, NONE, NONE, NONE, NONE};
    int[] list;

    Series copy() {
      Series c = new Series();
      c.zone = zone; c.first = first; c.minute = minute; c.length = length; c.people = people;
      c.kind = kind; c.step = step; c.days = days; c.place = place; c.how = how; c.number = number;
      c.room = room;
      c.exceptions = new TreeMap<>(exceptions);
      c.answers = answers.clone();
      c.counters = counters.clone();
      c.list = list;
      return c;
    }

    boolean holds(int d) {
      int week = Math.floorDiv(d + 5, 7) - Math.floorDiv(first + 5, 7);
      int month = (YEAR[d] - YEAR[first]) * 12 + MONTH[d] - MONTH[first];
      switch (kind) {
        case 0: return d == first;
        case 1: return (d - first) % step == 0;
        case 2: return in(d) && week % step == 0;
        case 3: return month % step == 0 && (place > 0 ? NUMBER[d] == place : NUMBER[d] - LENGTH[d] - 1 == place);
        case 4: return month % step == 0 && in(d) && (place > 0 ? ahead(d) + 1 == place : -behind(d) - 1 == place);
        default: return (YEAR[d] - YEAR[first]) % step == 0 && MONTH[d] == MONTH[first] && NUMBER[d] == NUMBER[first];
      }
    }

    boolean in(int d) { return (days & 1 << WEEKDAY[d]) != 0; }

    int ahead(int d) {
      int n = 0;
      for (int k = d - NUMBER[d] + 1; k < d; k++) if (in(k)) n++;
      return n;
    }

    int behind(int d) {
      int n = 0;
      for (int k = d + 1; k <= d - NUMBER[d] + LENGTH[d]; k++) if (in(k)) n++;
      return n;
    }

    int[] days() {
      if (list != null) return list;
      int[] found = new int[ALL];
      int n = 0;
      for (int d = first; d <= 146000; d++) {
        if (how == 1 && n >= number || how == 2 && d > number) break;
        if (holds(d)) found[n++] = d;
      }
      list = Arrays.copyOf(found, n);
      return list;
    }

    boolean isDay(int d) { return Arrays.binarySearch(days(), d) >= 0; }

    boolean takes(int p) { return (people >> p & 1) == 1 && answers[p] != 2; }
  }

  static final class State {
    int[][] zones = new int[3][];
    int[][] persons = new int[8][];
    int[] rooms = {0, 1, 2, 3};
    Series[] series = new Series[12];
    int clock = 14400;
    int[][] reminders = new int[10][];
    List<int[]> rings = new ArrayList<>();
    List<int[]> snoozed = new ArrayList<>();
    int[] clocks = new int[2];
    List<List<int[]>> made = List.of(new ArrayList<>(), new ArrayList<>());
    List<Set<Integer>> come = List.of(new HashSet<>(), new HashSet<>());

    State() {
      for (int k = 0; k < 3; k++) zones[k] = new int[] {0, 0, 3, 5, 6, 120, 10, 5, 6, 120};
      for (int k = 0; k < 8; k++) persons[k] = new int[] {0, 31, 540, 1020};
    }

    State copy() {
      State c = new State();
      for (int k = 0; k < 3; k++) c.zones[k] = zones[k].clone();
      for (int k = 0; k < 8; k++) c.persons[k] = persons[k].clone();
      c.rooms = rooms.clone();
      for (int k = 0; k < 12; k++) c.series[k] = series[k] == null ? null : series[k].copy();
      c.clock = clock;
      for (int k = 0; k < 10; k++) c.reminders[k] = reminders[k] == null ? null : reminders[k].clone();
      c.rings = new ArrayList<>(rings);
      c.snoozed = new ArrayList<>(snoozed);
      c.clocks = clocks.clone();
      for (int k = 0; k < 2; k++) {
        c.made.get(k).addAll(made.get(k));
        c.come.get(k).addAll(come.get(k));
      }
      return c;
    }
  }

  State s = new State();
  List<State> undos = new ArrayList<>();
  StringBuilder text = new StringBuilder();
  String written = "";
  List<int[]> laid = new ArrayList<>();
  List<int[]> clashes = new ArrayList<>();
  List<int[]> plan;

  // ---- parts

  void out(boolean is) { if (is) throw new IndexOutOfBoundsException(); }
  void bad(boolean is) { if (is) throw new IllegalArgumentException(); }
  void missing(boolean is) { if (is) throw new NoSuchElementException(); }
  void state(boolean is) { if (is) throw new IllegalStateException(); }
  boolean off(int x, int a, int b) { return x < a || x > b; }
  boolean offDay(int d) { return off(d, 10, 146000); }
  boolean offMinute(int m) { return off(m, 14400, 210240000); }
  void badPiece(int a, int b, int most) { bad(offMinute(a) || offMinute(b) || b <= a || b - a > most); }

  void save() {
    undos.add(s);
    s = s.copy();
    if (undos.size() > 8) undos.remove(0);
  }

  Series series(int n) {
    out(off(n, 0, 11) || s.series[n] == null);
    return s.series[n];
  }

  static final Map<Long, Long> SWITCHES = new HashMap<>();

  static long switchAt(int[] z, int from, int year) {
    long key = (((year * 13L + z[from]) * 7 + z[from + 1]) * 8 + z[from + 2]) * 1440 + z[from + 3];
    Long known = SWITCHES.get(key);
    if (known != null) return known;
    LocalDate month = LocalDate.of(year, z[from], 1);
    DayOfWeek day = DayOfWeek.of(z[from + 2] + 1);
    LocalDate at = month.with(z[from + 1] == 5 ? TemporalAdjusters.lastInMonth(day) : TemporalAdjusters.dayOfWeekInMonth(z[from + 1], day));
    long minute = ChronoUnit.DAYS.between(START, at) * 1440 + z[from + 3];
    SWITCHES.put(key, minute);
    return minute;
  }

  static boolean summer(int[] z, int standard) {
    if (z[1] == 0) return false;
    int year = LocalDateTime.of(2000, 1, 1, 0, 0).plusMinutes(standard).getYear();
    boolean afterForth = standard >= switchAt(z, 2, year);
    boolean beforeBack = standard < switchAt(z, 6, year);
    return z[2] > z[6] ? afterForth || beforeBack : afterForth && beforeBack;
  }

  static int local(int[] z, int common) {
    int standard = common + z[0];
    return summer(z, standard) ? standard + z[1] : standard;
  }

  static List<Integer> tellers(int[] z, int local) {
    List<Integer> all = new ArrayList<>();
    for (int c = local - z[0] - z[1]; c <= local - z[0]; c += Math.max(15, z[1])) if (local(z, c) == local) all.add(c);
    return all;
  }

  static int common(int[] z, int local) {
    List<Integer> all = tellers(z, local);
    return all.isEmpty() ? local - z[0] : all.get(0);
  }

  int begin(Series x, int d) {
    Integer to = x.exceptions.get(d);
    if (to != null && to == NONE) return NONE;
    return common(s.zones[x.zone], to == null ? d * 1440 + x.minute : to);
  }

  /** Rows of begin, series, day, end, in the order of dates; all that begin in the piece. */
  List<int[]> dates(int mask, int from, int to) {
    List<int[]> rows = new ArrayList<>();
    for (int n = 0; n < 12; n++) {
      Series x = s.series[n];
      if (x == null || (mask >> n & 1) == 0) continue;
      Set<Integer> looked = new HashSet<>(x.exceptions.keySet());
      int[] list = x.days();
      int at = Arrays.binarySearch(list, from / 1440 - 3);
      for (int k = at < 0 ? -at - 1 : at; k < list.length && list[k] <= to / 1440 + 3; k++) looked.add(list[k]);
      for (int d : looked) {
        int b = begin(x, d);
        if (b != NONE && b >= from && b < to) rows.add(new int[] {b, n, d, b + x.length});
      }
    }
    rows.sort(Comparator.<int[]>comparingInt(r -> r[0]).thenComparingInt(r -> r[1]).thenComparingInt(r -> r[2]));
    return rows;
  }

  int maskOf(int people) {
    int mask = 0;
    for (int n = 0; n < 12; n++) for (int p = 0; p < 8; p++) {
      if ((people >> p & 1) == 1 && s.series[n] != null && s.series[n].takes(p)) mask |= 1 << n;
    }
    return mask;
  }

  boolean[] busy(int p, int from, int to) {
    boolean[] b = new boolean[to - from];
    for (int[] r : dates(maskOf(1 << p), from - 700, to)) {
      for (int m = Math.max(from, r[0]); m < Math.min(to, r[3]); m++) b[m - from] = true;
    }
    return b;
  }

  boolean[] work(int p, int from, int to) {
    boolean[] b = new boolean[to - from];
    int[] who = s.persons[p];
    for (int m = from; m < to; m++) {
      int l = local(s.zones[who[0]], m);
      b[m - from] = (who[1] >> WEEKDAY[l / 1440] & 1) == 1 && l % 1440 >= who[2] && l % 1440 < who[3];
    }
    return b;
  }

  // ---- changes

  int setZone(int z, int offset, int shift) {
    out(off(z, 0, 2));
    bad(off(offset, -720, 840) || off(shift, 0, 120) || offset % 15 != 0 || shift % 15 != 0);
    save();
    int was = s.zones[z][0];
    s.zones[z][0] = offset;
    s.zones[z][1] = shift;
    return was;
  }

  int setSwitch(int z, boolean forth, int month, int place, int weekday, int minute) {
    out(off(z, 0, 2));
    bad(off(month, 1, 12) || off(place, 1, 5) || off(weekday, 0, 6) || off(minute, 0, 1439) || month == s.zones[z][forth ? 6 : 2]);
    save();
    int at = forth ? 2 : 6;
    int was = s.zones[z][at];
    s.zones[z][at] = month;
    s.zones[z][at + 1] = place;
    s.zones[z][at + 2] = weekday;
    s.zones[z][at + 3] = minute;
    return was;
  }

  int setPerson(int p, int zone, int days, int from, int to) {
    out(off(p, 0, 7) || off(zone, 0, 2));
    bad(off(days, 0, 127) || off(from, 0, 1439) || to <= from || to > 1440);
    save();
    int was = s.persons[p][0];
    s.persons[p] = new int[] {zone, days, from, to};
    return was;
  }

  int setRoom(int room, int building) {
    out(off(room, 0, 3));
    bad(off(building, 0, 9));
    save();
    int was = s.rooms[room];
    s.rooms[room] = building;
    return was;
  }

  int free() {
    for (int n = 0; n < 12; n++) if (s.series[n] == null) return n;
    return NONE;
  }

  int addSeries(int zone, int day, int minute, int length, int people, boolean room) {
    out(off(zone, 0, 2));
    bad(offDay(day) || off(minute, 0, 1439) || off(length, 1, 600) || off(people, 0, 255));
    state(free() == NONE);
    save();
    int n = free();
    Series x = new Series();
    x.zone = zone;
    x.first = day;
    x.minute = minute;
    x.length = length;
    x.people = people;
    x.room = room;
    s.series[n] = x;
    return n;
  }

  int dropSeries(int n) {
    series(n);
    save();
    s.series[n] = null;
    int left = 0;
    for (Series x : s.series) if (x != null) left++;
    return left;
  }

  int setRule(int n, int kind, int step, int days, int place) {
    series(n);
    bad(off(kind, 0, 5));
    bad(kind == 0 ? step != 0 : off(step, 1, 99));
    bad(kind == 2 || kind == 4 ? off(days, 1, 127) : days != 0);
    bad(kind == 3 ? place == 0 || off(place, -31, 31) : kind == 4 ? place == 0 || off(place, -5, 5) : place != 0);
    save();
    Series x = series(n);
    int was = x.kind;
    x.kind = kind;
    x.step = step;
    x.days = days;
    x.place = place;
    x.exceptions.clear();
    x.list = null;
    return was;
  }

  int setEnd(int n, int how, int number) {
    Series y = series(n);
    bad(off(how, 0, 2));
    bad(how == 0 && number != 0 || how == 1 && off(number, 1, 500) || how == 2 && off(number, y.first, 146000));
    save();
    Series x = series(n);
    int was = x.how;
    x.how = how;
    x.number = number;
    x.exceptions.clear();
    x.list = null;
    return was;
  }

  int readRule(int n) {
    Series y = series(n);
    int[] told = new int[6];
    bad(error(y.first, told) != NONE);
    save();
    Series x = series(n);
    x.kind = told[0];
    x.step = told[1];
    x.days = told[2];
    x.place = told[3];
    x.how = told[4];
    x.number = told[5];
    x.exceptions.clear();
    x.list = null;
    return x.kind;
  }

  int edit(int n, int field, int value) {
    series(n);
    bad(off(field, 0, 3));
    bad(off(value, field == 1 ? 1 : 0, new int[] {1439, 600, 255, 1}[field]));
    save();
    Series x = series(n);
    int was;
    if (field == 0) {
      was = x.minute;
      x.minute = value;
    } else if (field == 1) {
      was = x.length;
      x.length = value;
    } else if (field == 2) {
      was = x.people;
      x.people = value;
      for (int p = 0; p < 8; p++) if ((value >> p & 1) == 0) {
        x.answers[p] = 0;
        x.counters[p] = NONE;
      }
    } else {
      was = x.room ? 1 : 0;
      x.room = value == 1;
    }
    return was;
  }

  int leaveOut(int n, int day) {
    Series y = series(n);
    missing(!y.isDay(day));
    state(!y.exceptions.containsKey(day) && y.exceptions.size() == 10);
    save();
    series(n).exceptions.put(day, NONE);
    return series(n).exceptions.size();
  }

  int move(int n, int day, int toDay, int toMinute) {
    Series y = series(n);
    bad(offDay(toDay) || off(toMinute, 0, 1439));
    missing(!y.isDay(day));
    state(!y.exceptions.containsKey(day) && y.exceptions.size() == 10);
    save();
    series(n).exceptions.put(day, toDay * 1440 + toMinute);
    return begin(series(n), day);
  }

  int bringBack(int n, int day) {
    missing(!series(n).exceptions.containsKey(day));
    save();
    series(n).exceptions.remove(day);
    return series(n).exceptions.size();
  }

  int fromHere(int n, int day, int minute, int length) {
    Series y = series(n);
    bad(off(minute, 0, 1439) || off(length, 1, 600));
    missing(!y.isDay(day) || y.days()[0] == day);
    state(free() == NONE);
    save();
    Series x = series(n);
    Series z = x.copy();
    int place = Arrays.binarySearch(x.days(), day);
    if (z.how == 1) z.number -= place;
    z.first = day;
    z.minute = minute;
    z.length = length;
    z.list = null;
    z.exceptions.headMap(day).clear();
    x.exceptions.tailMap(day).clear();
    x.how = 2;
    x.number = day - 1;
    x.list = null;
    int made = free();
    s.series[made] = z;
    return made;
  }

  int applyPlan() {
    state(plan == null);
    int[] more = new int[12];
    for (int[] r : plan) {
      Series x = s.series[r[1]];
      state(x == null || !x.isDay(r[2]) || begin(x, r[2]) == NONE);
      if (begin(x, r[2]) != r[4] && !x.exceptions.containsKey(r[2])) more[r[1]]++;
    }
    for (int[] r : plan) state(s.series[r[1]].exceptions.size() + more[r[1]] > 10);
    save();
    int moved = 0;
    for (int[] r : plan) {
      Series x = s.series[r[1]];
      if (begin(x, r[2]) == r[4]) continue;
      x.exceptions.put(r[2], local(s.zones[x.zone], r[4]));
      moved++;
    }
    plan = null;
    return moved;
  }

  int answer(int n, int p, int answer) {
    Series y = series(n);
    out(off(p, 0, 7));
    bad((y.people >> p & 1) == 0 || off(answer, 0, 3));
    save();
    int was = y.answers[p];
    series(n).answers[p] = answer;
    return was;
  }

  int counter(int n, int p, int minute) {
    Series y = series(n);
    out(off(p, 0, 7));
    bad((y.people >> p & 1) == 0 || off(minute, 0, 1439));
    save();
    series(n).counters[p] = minute;
    int count = 0;
    for (int c : series(n).counters) if (c != NONE) count++;
    return count;
  }

  int accept(int n, int p) {
    Series y = series(n);
    out(off(p, 0, 7));
    missing(y.counters[p] == NONE);
    save();
    Series x = series(n);
    x.minute = x.counters[p];
    Arrays.fill(x.answers, 0);
    Arrays.fill(x.counters, NONE);
    x.answers[p] = 1;
    return x.minute;
  }

  int remind(int n, int ahead) {
    series(n);
    bad(off(ahead, 0, 1440));
    int k = 0;
    while (k < 10 && s.reminders[k] != null) k++;
    state(k == 10);
    save();
    s.reminders[k] = new int[] {n, ahead};
    return k;
  }

  int forget(int r) {
    out(off(r, 0, 9) || s.reminders[r] == null);
    save();
    s.reminders[r] = null;
    int left = 0;
    for (int[] x : s.reminders) if (x != null) left++;
    return left;
  }

  int pass(int minutes) {
    bad(off(minutes, 1, 1440));
    state(s.clock + minutes > 210240000);
    save();
    int until = s.clock + minutes;
    List<int[]> come = new ArrayList<>();
    for (int k = 0; k < 10; k++) {
      if (s.reminders[k] == null || s.series[s.reminders[k][0]] == null) continue;
      int ahead = s.reminders[k][1];
      for (int[] r : dates(1 << s.reminders[k][0], s.clock + 1 + ahead, until + 1 + ahead)) come.add(new int[] {k, r[2], r[0] - ahead, 0});
    }
    for (int[] r : s.snoozed) if (r[2] <= until) come.add(r);
    s.snoozed.removeIf(r -> r[2] <= until);
    come.sort(Comparator.<int[]>comparingInt(r -> r[2]).thenComparingInt(r -> r[0]).thenComparingInt(r -> r[1]).thenComparingInt(r -> r[3]));
    s.rings.addAll(come);
    while (s.rings.size() > 30) s.rings.remove(0);
    s.clock = until;
    return come.size();
  }

  int snooze(int ring, int minutes) {
    out(off(ring, 0, s.rings.size() - 1));
    bad(off(minutes, 1, 600));
    state(s.snoozed.size() >= 10);
    save();
    int[] r = s.rings.get(ring);
    s.snoozed.add(new int[] {r[0], r[1], s.clock + minutes, 1});
    return s.clock + minutes;
  }

  int change(int device, int number, int field, int value) {
    out(off(device, 0, 1));
    bad(off(number, 0, 11) || off(field, 0, 3) || off(value, 0, 999));
    state(s.made.get(device).size() >= 40);
    save();
    s.clocks[device]++;
    s.made.get(device).add(new int[] {number, field, value, s.clocks[device]});
    return s.clocks[device];
  }

  int deliver(int device, int change) {
    out(off(device, 0, 1) || off(change, 0, s.made.get(device).size() - 1));
    save();
    s.come.get(1 - device).add(change);
    s.clocks[1 - device] = Math.max(s.clocks[1 - device], s.made.get(device).get(change)[3]);
    return s.clocks[1 - device];
  }

  int undo() {
    state(undos.isEmpty());
    s = undos.remove(undos.size() - 1);
    return undos.size();
  }

  // ---- questions

  int dayOf(int year, int month, int number) {
    bad(off(year, 2000, 2399) || off(month, 1, 12));
    if (off(number, 1, LocalDate.of(year, month, 1).lengthOfMonth())) return NONE;
    return (int) ChronoUnit.DAYS.between(START, LocalDate.of(year, month, number));
  }

  int dayAt(int day, int what) {
    bad(off(day, 0, 146096) || off(what, 0, 4));
    LocalDate at = START.plusDays(day);
    return new int[] {at.getYear(), at.getMonthValue(), at.getDayOfMonth(), at.getDayOfWeek().getValue() - 1, at.getDayOfYear()}[what];
  }

  int toLocal(int z, int minute) {
    out(off(z, 0, 2));
    bad(offMinute(minute));
    return local(s.zones[z], minute);
  }

  int toCommon(int z, int minute, boolean second) {
    out(off(z, 0, 2));
    bad(offMinute(minute));
    List<Integer> all = tellers(s.zones[z], minute);
    int place = second ? 1 : 0;
    return place < all.size() ? all.get(place) : NONE;
  }

  int seriesAt(int n, int what) {
    Series x = series(n);
    bad(off(what, 0, 12));
    return new int[] {x.zone, x.first, x.minute, x.length, x.people, x.room ? 1 : 0, x.kind, x.step, x.days, x.place, x.how, x.number, x.exceptions.size()}[what];
  }

  int nextDay(int n, int day) {
    Series x = series(n);
    bad(offDay(day));
    for (int d : x.days()) if (d >= day) return d;
    return NONE;
  }

  int countDays(int n, int from, int to) {
    Series x = series(n);
    bad(offDay(from) || to < from || to > 146000);
    int count = 0;
    for (int d : x.days()) if (d >= from && d <= to) count++;
    return count;
  }

  int dayOfSeries(int n, int place) {
    Series x = series(n);
    bad(off(place, 0, 500));
    missing(place >= x.days().length);
    return x.days()[place];
  }

  int beginOf(int n, int day) {
    Series x = series(n);
    missing(!x.isDay(day));
    return begin(x, day);
  }

  int nextDate(int n, int minute) {
    Series x = series(n);
    bad(offMinute(minute));
    return nextRow(x, minute)[1];
  }

  int[] nextRow(Series x, int minute) {
    int[] best = {Integer.MAX_VALUE, NONE};
    Set<Integer> looked = new HashSet<>(x.exceptions.keySet());
    int seen = 0;
    for (int d : x.days()) if (d >= minute / 1440 - 3 && seen++ < 30) looked.add(d);
    for (int d : looked) {
      int b = begin(x, d);
      if (b == NONE || b < minute) continue;
      if (b < best[0] || b == best[0] && d < best[1]) best = new int[] {b, d};
    }
    return best;
  }

  int countDates(int n, int from, int to) {
    series(n);
    badPiece(from, to, 525600);
    return dates(1 << n, from, to).size();
  }

  int answerOf(int n, int p) {
    Series x = series(n);
    out(off(p, 0, 7));
    return (x.people >> p & 1) == 1 ? x.answers[p] : NONE;
  }

  int counterOf(int n, int p) {
    Series x = series(n);
    out(off(p, 0, 7));
    return x.counters[p];
  }

  int datesAt(int p, int minute) {
    out(off(p, 0, 7));
    bad(offMinute(minute));
    int count = 0;
    for (int[] r : dates(maskOf(1 << p), minute - 700, minute + 1)) if (r[0] <= minute && minute < r[3]) count++;
    return count;
  }

  int minutesOf(int p, int from, int to, int which) {
    out(off(p, 0, 7));
    badPiece(from, to, 20160);
    bad(off(which, 0, 2));
    boolean[] b = busy(p, from, to), w = work(p, from, to);
    int count = 0;
    for (int k = 0; k < to - from; k++) if ((which == 1 || b[k]) && (which == 0 || w[k])) count++;
    return count;
  }

  int freeNext(int people, int from, int to, int length, boolean isWork) {
    bad(off(people, 1, 255) || off(length, 1, 600));
    badPiece(from, to, 20160);
    boolean[] no = new boolean[to - from];
    for (int p = 0; p < 8; p++) {
      if ((people >> p & 1) == 0) continue;
      boolean[] b = busy(p, from, to);
      for (int k = 0; k < no.length; k++) no[k] |= b[k];
      if (!isWork) continue;
      boolean[] w = work(p, from, to);
      for (int k = 0; k < no.length; k++) no[k] |= !w[k];
    }
    int run = 0;
    for (int k = 0; k < no.length; k++) {
      run = no[k] ? 0 : run + 1;
      if (run == length) return from + k - length + 1;
    }
    return NONE;
  }

  int best(int people, int from, int to, int length, boolean isCost) {
    bad(off(people, 1, 255) || off(length, 1, 600));
    badPiece(from, to, 10080);
    int n = to - from - length < 0 ? 0 : (to - from - length) / 15 + 1;
    int[] cost = new int[n];
    for (int p = 0; p < 8; p++) {
      if ((people >> p & 1) == 0) continue;
      boolean[] b = busy(p, from, to), w = work(p, from, to);
      for (int k = 0; k < n; k++) {
        int c = 0;
        for (int m = 15 * k; m < 15 * k + length; m++) c = Math.max(c, b[m] ? 3 : w[m] ? 0 : 1);
        cost[k] += c;
      }
    }
    if (n == 0) return NONE;
    int at = 0;
    for (int k = 0; k < n; k++) if (cost[k] < cost[at]) at = k;
    return isCost ? cost[at] : from + 15 * at;
  }

  int clashes(int p, int from, int to) {
    out(off(p, 0, 7));
    badPiece(from, to, 10080);
    clashes.clear();
    List<int[]> all = dates(maskOf(1 << p), from, to);
    for (int i = 0; i < all.size(); i++) for (int j = i + 1; j < all.size(); j++) {
      int[] a = all.get(i), b = all.get(j);
      int ra = room(a[1], a[2]), rb = room(b[1], b[2]);
      boolean both = b[0] < a[3];
      boolean way = ra >= 0 && rb >= 0 && b[0] - a[3] < 5 * Math.abs(s.rooms[ra] - s.rooms[rb]);
      if (both || way) clashes.add(new int[] {a[1], a[2], b[1], b[2]});
    }
    return clashes.size();
  }

  int clashAt(int clash, int what) {
    bad(clash < 0 || off(what, 0, 3));
    missing(clash >= clashes.size());
    return clashes.get(clash)[what];
  }

  int maskOfRooms() {
    int mask = 0;
    for (int n = 0; n < 12; n++) if (s.series[n] != null && s.series[n].room) mask |= 1 << n;
    return mask;
  }

  int roomsNeeded(int from, int to) {
    badPiece(from, to, 10080);
    List<int[]> all = dates(maskOfRooms(), from, to);
    int most = 0;
    for (int m = from; m < to + 601; m++) {
      int on = 0;
      for (int[] r : all) if (r[0] <= m && m < r[3]) on++;
      most = Math.max(most, on);
    }
    return most;
  }

  int layRooms(int from, int to) {
    badPiece(from, to, 10080);
    laid.clear();
    int without = 0;
    for (int[] r : dates(maskOfRooms(), from, to)) {
      int got = NONE;
      for (int k = 3; k >= 0; k--) {
        boolean on = false;
        for (int[] l : laid) on |= l[2] == k && l[3] <= r[0] && r[0] < l[4];
        if (!on) got = k;
      }
      laid.add(new int[] {r[1], r[2], got, r[0], r[3]});
      if (got == NONE) without++;
    }
    return without;
  }

  int room(int n, int day) {
    for (int[] l : laid) if (l[0] == n && l[1] == day) return l[2];
    return -2;
  }

  int roomOf(int n, int day) {
    missing(room(n, day) == -2);
    return room(n, day);
  }

  int plan(int mask, int from, int to) {
    bad(off(mask, 1, 4095));
    badPiece(from, to, 10080);
    List<int[]> all = dates(mask, from, to);
    state(all.size() > 5);
    int[] best = null;
    int least = Integer.MAX_VALUE;
    int total = 1;
    for (int k = 0; k < all.size(); k++) total *= 9;
    for (int c = 0; c < total; c++) {
      int[] b = new int[all.size()];
      int cost = 0;
      // The first date has the highest digit, so that plans come by the order of their begins.
      for (int k = all.size() - 1, rest = c; k >= 0; k--, rest /= 9) {
        b[k] = all.get(k)[0] + (rest % 9 - 4) * 30;
        cost += Math.abs(rest % 9 - 4) * 30;
      }
      if (cost < least && fits(all, b, from, to)) {
        best = b;
        least = cost;
      }
    }
    plan = null;
    if (best == null) return NONE;
    plan = new ArrayList<>();
    for (int k = 0; k < best.length; k++) {
      int[] r = all.get(k);
      plan.add(new int[] {r[0], r[1], r[2], r[3], best[k]});
    }
    return least;
  }

  boolean fits(List<int[]> all, int[] b, int from, int to) {
    for (int k = 0; k < b.length; k++) {
      if (b[k] < from || b[k] >= to) return false;
      Series x = s.series[all.get(k)[1]];
      for (int j = 0; j < k; j++) {
        Series y = s.series[all.get(j)[1]];
        boolean shared = false;
        for (int p = 0; p < 8; p++) shared |= x.takes(p) && y.takes(p);
        if (shared && b[k] < b[j] + y.length && b[j] < b[k] + x.length) return false;
      }
    }
    return true;
  }

  int planAt(int place, int what) {
    bad(place < 0 || off(what, 0, 2));
    missing(plan == null || place >= plan.size());
    return plan.get(place)[new int[] {1, 2, 4}[what]];
  }

  int now() { return s.clock; }

  int nextRing(int r) {
    out(off(r, 0, 9) || s.reminders[r] == null);
    Series x = s.series[s.reminders[r][0]];
    if (x == null) return NONE;
    int[] row = nextRow(x, s.clock + 1 + s.reminders[r][1]);
    return row[1] == NONE ? NONE : row[0] - s.reminders[r][1];
  }

  int rings() { return s.rings.size(); }

  int ringAt(int ring, int what) {
    out(off(ring, 0, s.rings.size() - 1));
    bad(off(what, 0, 3));
    return s.rings.get(ring)[what];
  }

  int shown(int device, int number, int field) {
    out(off(device, 0, 1));
    bad(off(number, 0, 11) || off(field, 0, 3));
    int[] best = null;
    for (int maker = 0; maker < 2; maker++) {
      for (int k = 0; k < s.made.get(maker).size(); k++) {
        int[] c = s.made.get(maker).get(k);
        boolean known = maker == device || s.come.get(device).contains(k);
        if (known && c[0] == number && c[1] == field && (best == null || c[3] >= best[3])) best = c;
      }
    }
    return best == null ? NONE : best[2];
  }

  boolean areAlike() {
    for (int n = 0; n < 12; n++) for (int f = 0; f < 4; f++) if (shown(0, n, f) != shown(1, n, f)) return false;
    return true;
  }

  int type(long bytes) {
    StringBuilder more = new StringBuilder();
    for (int k = 7; k >= 0; k--) if ((bytes >>> 8 * k & 255) != 0) more.append((char) (bytes >>> 8 * k & 255));
    state(text.length() + more.length() > 120);
    text.append(more);
    return text.length();
  }

  int clearText() {
    int was = text.length();
    text.setLength(0);
    return was;
  }

  int errorPlace() { return error(10, new int[6]); }

  static final List<String> DAYS = List.of("mo", "tu", "we", "th", "fr", "sa", "su");
  static final List<String> ORDINALS = List.of("first", "second", "third", "fourth", "fifth");

  /** What may come behind some tokens, as a step of a machine: its state is a word of the grammar. */
  int error(int leastDay, int[] told) {
    Matcher m = Pattern.compile("[a-z]+|[0-9]+|[^ ]", Pattern.DOTALL).matcher(text);
    String at = "text";
    while (m.find()) {
      at = step(at, m.group(), leastDay, told);
      if (at == null) return m.start();
    }
    return List.of("behind rule", "in days", "behind last", "over").contains(at) ? NONE : text.length();
  }

  String step(String at, String token, int leastDay, int[] told) {
    boolean isNumber = Character.isDigit(token.charAt(0));
    int number = !isNumber ? 0 : token.replaceFirst("^0+(?=.)", "").length() > 8 ? 999999999 : Integer.parseInt(token);
    int day = DAYS.indexOf(token);
    switch (at) {
      case "text":
        if (token.equals("every")) told[1] = 1;
        return token.equals("once") ? "behind rule" : token.equals("every") ? "every" : null;
      case "every":
        if (isNumber) {
          told[1] = number;
          return off(number, 1, 99) ? null : "unit";
        }
        return unit(token, told);
      case "unit": return unit(token, told);
      case "weeks": return token.equals("on") ? "days" : null;
      case "months": return token.equals("on") ? "which" : null;
      case "which":
        told[3] = isNumber ? number : token.equals("last") ? -1 : ORDINALS.indexOf(token) + 1;
        if (isNumber) return off(number, 1, 31) ? null : "behind rule";
        if (token.equals("last")) return "behind last";
        if (told[3] == 0) return null;
        told[0] = 4;
        return "days";
      case "days":
        told[2] |= day < 0 ? 0 : 1 << day;
        return day < 0 ? null : "in days";
      case "behind last":
      case "in days":
        if (day >= 0) {
          if (at.equals("behind last")) told[0] = 4;
          told[2] |= 1 << day;
          return "in days";
        }
        return end(token, told);
      case "behind rule": return end(token, told);
      case "end":
        told[5] = number;
        return !isNumber || (told[4] == 1 ? off(number, 1, 500) : off(number, leastDay, 146000)) ? null : "over";
      default: return null;
    }
  }

  String unit(String token, int[] told) {
    told[0] = List.of("", "days", "weeks", "months", "", "years").indexOf(token);
    if (told[0] == 1 || told[0] == 5) return "behind rule";
    return told[0] > 0 ? token : null;
  }

  String end(String token, int[] told) {
    told[4] = token.equals("for") ? 1 : token.equals("until") ? 2 : 0;
    return told[4] > 0 ? "end" : null;
  }

  int write(int n) {
    Series x = series(n);
    List<String> words = new ArrayList<>();
    words.add(x.kind == 0 ? "once" : "every");
    if (x.step > 1) words.add("" + x.step);
    if (x.kind > 0) words.add(List.of("days", "weeks", "months", "months", "years").get(x.kind - 1));
    if (x.kind >= 2 && x.kind <= 4) words.add("on");
    if (x.place == -1) words.add("last");
    if (x.place < -1) words.add("end " + -x.place);
    if (x.place > 0) words.add(x.kind == 3 ? "" + x.place : ORDINALS.get(x.place - 1));
    for (int d = 0; d < 7; d++) if ((x.days >> d & 1) == 1) words.add(DAYS.get(d));
    if (x.how > 0) words.add((x.how == 1 ? "for " : "until ") + x.number);
    written = String.join(" ", words);
    return written.length();
  }

  int writtenAt(int place) {
    missing(off(place, 0, written.length() - 1));
    return written.charAt(place);
  }

  double busyShare(int p, int from, int to) {
    int work = minutesOf(p, from, to, 1);
    return work == 0 ? 0.0 : (double) minutesOf(p, from, to, 2) / work;
  }

  float meanLength() {
    int sum = 0, n = 0;
    for (Series x : s.series) if (x != null) {
      sum += x.length;
      n++;
    }
    return n == 0 ? 0.0f : (float) sum / (float) n;
  }

  long checksum(int from, int to) {
    badPiece(from, to, 10080);
    long h = 17;
    for (int[] r : dates(4095, from, to)) {
      h = h * 31 + r[0];
      h = h * 31 + r[1];
    }
    return h;
  }

  int errors() { return 0; }
}
