import java.util.Random;
import java.util.function.Supplier;

/**
 * Runs of calls by chance, but the same each time: each call must answer what Model answers.
 * Arguments: how many runs, and the number of the first one.
 */
public final class RandomRuns {
  private final Random random;
  private final int run;
  private final int baseDay;
  private final int spread;
  private final boolean isPlain;
  /** Many dates near one another that stay: few rules, zones and series change. */
  private final boolean isDense;
  private Calendarhall hall = new Calendarhall();
  private Model model = new Model();
  private int asked = 0;
  private final StringBuilder log = new StringBuilder();

  private static int calls = 0;
  private static int thrown = 0;

  private RandomRuns(int run) {
    this.run = run;
    random = new Random(77000L + run);
    int[] bases = {10, 10, 10, 12, 80, 85, 300, 50 + random.nextInt(100000), 145980, 59, 36580};
    baseDay = bases[random.nextInt(bases.length)];
    isPlain = random.nextInt(4) > 0;
    isDense = run % 2 == 1;
    spread = isDense ? 3 + random.nextInt(4) : random.nextBoolean() ? 6 : 30;
  }

  public static void main(String[] args) {
    int runs = args.length > 0 ? Integer.parseInt(args[0]) : 300;
    int first = args.length > 1 ? Integer.parseInt(args[1]) : 0;
    for (int k = first; k < first + runs; k++) {
      RandomRuns one = new RandomRuns(k);
      if (!one.goes()) {
        System.out.println("run " + k + " goes wrong:\n" + one.log);
        System.exit(1);
      }
    }
    System.out.println("RandomRuns: " + runs + " runs, " + calls + " calls, " + thrown + " of them thrown, all as the model answers");
  }

  private boolean goes() {
    int focus = random.nextInt(6);
    // One step may ask two calls, and an object is used for 512 calls.
    while (asked < 511) {
      if (!step(focus)) return false;
    }
    return true;
  }

  private static Object ask(Supplier<Object> call) {
    try {
      return call.get();
    } catch (RuntimeException e) {
      return "throws." + e.getClass().getSimpleName();
    }
  }

  private boolean alike(String call, Supplier<Object> real, Supplier<Object> due) {
    Object a = ask(real), b = ask(due);
    calls++;
    asked++;
    if (b instanceof String) thrown++;
    log.append(call).append(" = ").append(a).append('\n');
    if (a.equals(b)) return true;
    log.append("  but due is ").append(b).append('\n');
    return false;
  }

  // ---- arguments

  private int below(int n) { return random.nextInt(n); }
  private boolean rarely() { return below(isPlain ? 60 : 15) == 0; }
  private boolean coin() { return random.nextBoolean(); }
  private int pick(int... from) { return from[below(from.length)]; }

  private int in(int least, int most) {
    if (rarely()) return pick(least - 1, most + 1, Integer.MIN_VALUE, Integer.MAX_VALUE, -1, 0);
    if (below(8) == 0) return coin() ? least : most;
    return least + below(most - least + 1);
  }

  private int day() {
    if (rarely()) return pick(9, 10, 146000, 146001, -1, Integer.MIN_VALUE, Integer.MAX_VALUE, 0);
    return Math.min(146000, Math.max(10, baseDay + below(spread + 4) - 3));
  }

  private int minute() {
    if (rarely()) return pick(14399, 14400, 210240000, 210240001, Integer.MIN_VALUE, Integer.MAX_VALUE);
    int m = (baseDay - 1 + below(spread)) * 1440 + 15 * below(96) + (below(3) == 0 ? below(15) : 0);
    return Math.max(14400, Math.min(210240000, m));
  }

  private int behind(int from, int most) {
    if (rarely()) return pick(from, from - 1, from + most, from + most + 1, 210240001);
    long to = (long) from + 1 + below(below(3) == 0 ? most : Math.max(1, most / 4));
    return (int) Math.min(210240000L, Math.max(to, Integer.MIN_VALUE));
  }

  private int person() { return in(0, 7); }
  private int zone() { return in(0, 2); }
  private int series() { return rarely() ? in(0, 11) : isDense && below(4) == 0 ? 0 : there(); }

  private int there() {
    int n = below(12);
    for (int k = 0; k < 12; k++) if (model.s.series[(n + k) % 12] != null) return (n + k) % 12;
    return n;
  }

  private int dayOfSeries(int n) {
    if (rarely() || n < 0 || n > 11 || model.s.series[n] == null) return day();
    int[] list = model.s.series[n].days();
    if (list.length == 0) return day();
    return list[below(Math.min(list.length, 1 + spread))];
  }

  private int inDay() { return below(3) == 0 ? in(0, 1439) : rarely() ? 1440 : 480 + 30 * below(20); }
  private int length() { return below(3) == 0 ? in(1, 600) : 15 * (1 + below(12)); }
  private int people() { return below(3) == 0 ? in(0, 255) : 1 << below(3) | 1 << below(8); }

  // ---- calls

  private boolean step(int focus) {
    int there = 0;
    for (Model.Series x : model.s.series) if (x != null) there++;
    if (there < 2 + 2 * focus && below(3) == 0) return addSeries();
    if (isDense && below(3) > 0) return denseStep(focus);
    switch (below(10)) {
      case 0: return zonesAndPeople();
      case 1: return seriesChanges(below(14));
      case 2: return below(3) == 0 ? devices() : answers();
      case 3: return below(2) == 0 ? undoOrDrop() : seriesChanges(below(14));
      case 4: return clock();
      case 5: return texts();
      case 6: return questions(below(12));
      case 7: return busy();
      case 8: return rooms();
      default:
        switch (focus) {
          case 0: return devices();
          case 1: return clock();
          case 2: return seriesChanges(below(14));
          case 3: return plans();
          case 4: return texts();
          default: return busy();
        }
    }
  }

  private boolean denseStep(int focus) {
    switch (below(9)) {
      case 0: return seriesChanges(6 + below(6));
      case 1: return seriesChanges(7 + below(5));
      case 2: return answers();
      case 3: return clock();
      case 4: return busy();
      case 5: return rooms();
      case 6: return plans();
      case 7: return questions(6 + below(6));
      default: return focus == 0 ? devices() : focus == 1 ? clock() : focus == 2 ? plans() : focus == 3 ? seriesChanges(8) : busy();
    }
  }

  private boolean addSeries() {
    int a = zone(), b = day(), c = inDay(), d = length(), e = people();
    boolean f = coin();
    if (isDense) {
      int day = rarely() ? b : baseDay, people = below(3) == 0 ? 255 : e, length = coin() ? d : 60 + below(541);
      return alike("addSeries(" + a + "," + day + "," + c + "," + length + "," + people + "," + f + ")", () -> hall.addSeries(a, day, c, length, people, f), () -> model.addSeries(a, day, c, length, people, f)) && setRule(there());
    }
    if (!alike("addSeries(" + a + "," + b + "," + c + "," + d + "," + e + "," + f + ")", () -> hall.addSeries(a, b, c, d, e, f), () -> model.addSeries(a, b, c, d, e, f))) return false;
    return setRule(there());
  }

  private boolean setRule(int n) {
    int kind = isDense && below(8) > 0 ? 1 + below(2) : in(0, 5);
    boolean isOff = rarely();
    int step = kind == 0 && !isOff ? 0 : coin() ? 1 : below(4) == 0 ? in(1, 99) : 1 + below(3);
    int days = (kind == 2 || kind == 4) != isOff ? in(1, 127) : 0;
    int place = (kind == 3) != isOff ? (coin() ? in(1, 31) : in(-31, -1)) : (kind == 4) != isOff ? (coin() ? in(1, 5) : in(-5, -1)) : 0;
    return alike("setRule(" + n + "," + kind + "," + step + "," + days + "," + place + ")", () -> hall.setRule(n, kind, step, days, place), () -> model.setRule(n, kind, step, days, place));
  }

  private boolean zonesAndPeople() {
    switch (isDense ? 2 + below(5) : below(7)) {
      case 0: case 1: {
        int z = zone(), o = rarely() ? in(-720, 840) : 15 * (below(105) - 48), h = rarely() ? in(0, 120) : 15 * below(9);
        return alike("setZone(" + z + "," + o + "," + h + ")", () -> hall.setZone(z, o, h), () -> model.setZone(z, o, h));
      }
      case 2: case 3: {
        int z = zone(), p = in(1, 5), w = in(0, 6), m = in(0, 1439);
        int near = baseDay < Model.ALL ? Model.MONTH[baseDay] : 1;
        int month = coin() ? in(1, 12) : (near + below(3) + 10) % 12 + 1;
        boolean f = coin();
        return alike("setSwitch(" + z + "," + f + "," + month + "," + p + "," + w + "," + m + ")", () -> hall.setSwitch(z, f, month, p, w, m), () -> model.setSwitch(z, f, month, p, w, m));
      }
      case 4: {
        int p = person(), z = zone(), d = in(0, 127), f = in(0, 1439), t = coin() ? in(1, 1440) : f + 1 + below(600);
        return alike("setPerson(" + p + "," + z + "," + d + "," + f + "," + t + ")", () -> hall.setPerson(p, z, d, f, t), () -> model.setPerson(p, z, d, f, t));
      }
      case 5: {
        int r = in(0, 3), b = in(0, 9);
        return alike("setRoom(" + r + "," + b + ")", () -> hall.setRoom(r, b), () -> model.setRoom(r, b));
      }
      default: {
        int z = zone(), m = minute();
        boolean second = coin();
        if (coin()) return alike("toLocal(" + z + "," + m + ")", () -> hall.toLocal(z, m), () -> model.toLocal(z, m));
        return alike("toCommon(" + z + "," + m + "," + second + ")", () -> hall.toCommon(z, m, second), () -> model.toCommon(z, m, second));
      }
    }
  }

  private boolean seriesChanges(int which) {
    int n = series();
    int d = dayOfSeries(n);
    switch (which) {
      case 0: return addSeries();
      case 1: return setRule(n);
      case 2: {
        int h = in(0, 2), x = h == 0 ? in(0, 0) : h == 1 ? (coin() ? 1 + below(20) : in(1, 500)) : coin() ? day() : d;
        return alike("setEnd(" + n + "," + h + "," + x + ")", () -> hall.setEnd(n, h, x), () -> model.setEnd(n, h, x));
      }
      case 3: return alike("readRule(" + n + ")", () -> hall.readRule(n), () -> model.readRule(n));
      case 4: case 5: {
        int f = in(0, 3), v = f == 0 ? inDay() : f == 1 ? length() : f == 2 ? people() : in(0, 1);
        return alike("edit(" + n + "," + f + "," + v + ")", () -> hall.edit(n, f, v), () -> model.edit(n, f, v));
      }
      case 6: case 7: return alike("leaveOut(" + n + "," + d + ")", () -> hall.leaveOut(n, d), () -> model.leaveOut(n, d));
      case 8: case 9: case 10: {
        int t = day(), m = inDay();
        return alike("move(" + n + "," + d + "," + t + "," + m + ")", () -> hall.move(n, d, t, m), () -> model.move(n, d, t, m));
      }
      case 11: return alike("bringBack(" + n + "," + d + ")", () -> hall.bringBack(n, d), () -> model.bringBack(n, d));
      case 12: {
        int m = inDay(), l = length();
        return alike("fromHere(" + n + "," + d + "," + m + "," + l + ")", () -> hall.fromHere(n, d, m, l), () -> model.fromHere(n, d, m, l));
      }
      default: return alike("applyPlan()", () -> hall.applyPlan(), () -> model.applyPlan());
    }
  }

  private boolean undoOrDrop() {
    int n = series();
    if (below(isDense ? 8 : 4) == 0) return alike("dropSeries(" + n + ")", () -> hall.dropSeries(n), () -> model.dropSeries(n));
    return alike("undo()", () -> hall.undo(), () -> model.undo());
  }

  private boolean answers() {
    int n = series(), p = person();
    if (!rarely() && n >= 0 && n < 12 && model.s.series[n] != null && model.s.series[n].people != 0) {
      while (p < 0 || p > 7 || (model.s.series[n].people >> p & 1) == 0) p = below(8);
    }
    int who = p;
    switch (below(6)) {
      case 0: case 1: {
        int a = in(0, 3);
        return alike("answer(" + n + "," + who + "," + a + ")", () -> hall.answer(n, who, a), () -> model.answer(n, who, a));
      }
      case 2: {
        int m = inDay();
        return alike("counter(" + n + "," + who + "," + m + ")", () -> hall.counter(n, who, m), () -> model.counter(n, who, m));
      }
      case 3: return alike("accept(" + n + "," + who + ")", () -> hall.accept(n, who), () -> model.accept(n, who));
      case 4: return alike("answerOf(" + n + "," + who + ")", () -> hall.answerOf(n, who), () -> model.answerOf(n, who));
      default: return alike("counterOf(" + n + "," + who + ")", () -> hall.counterOf(n, who), () -> model.counterOf(n, who));
    }
  }

  private boolean clock() {
    int r = in(0, 9);
    int ring = model.rings() == 0 ? in(0, 3) : in(0, model.rings() - 1);
    switch (below(9)) {
      case 0: {
        int n = series(), a = coin() ? in(0, 1440) : 15 * below(8);
        return alike("remind(" + n + "," + a + ")", () -> hall.remind(n, a), () -> model.remind(n, a));
      }
      case 1: return below(6) > 0 || alike("forget(" + r + ")", () -> hall.forget(r), () -> model.forget(r));
      case 2: case 3: {
        int m = in(1, 1440);
        return alike("pass(" + m + ")", () -> hall.pass(m), () -> model.pass(m));
      }
      case 4: {
        int m = in(1, 600);
        return alike("snooze(" + ring + "," + m + ")", () -> hall.snooze(ring, m), () -> model.snooze(ring, m));
      }
      case 5: return alike("now()", () -> hall.now(), () -> model.now());
      case 6: return alike("nextRing(" + r + ")", () -> hall.nextRing(r), () -> model.nextRing(r));
      case 7: return alike("rings()", () -> hall.rings(), () -> model.rings());
      default: {
        int w = in(0, 3);
        return alike("ringAt(" + ring + "," + w + ")", () -> hall.ringAt(ring, w), () -> model.ringAt(ring, w));
      }
    }
  }

  private boolean devices() {
    int d = in(0, 1), n = coin() ? below(2) : in(0, 11), f = coin() ? 0 : in(0, 3);
    switch (below(6)) {
      case 0: case 1: {
        int v = coin() ? below(3) : in(0, 999);
        return alike("change(" + d + "," + n + "," + f + "," + v + ")", () -> hall.change(d, n, f, v), () -> model.change(d, n, f, v));
      }
      case 2: case 3: {
        int c = d < 0 || d > 1 ? 0 : in(0, Math.max(0, model.s.made.get(d).size() - 1));
        return alike("deliver(" + d + "," + c + ")", () -> hall.deliver(d, c), () -> model.deliver(d, c));
      }
      case 4: return alike("shown(" + d + "," + n + "," + f + ")", () -> hall.shown(d, n, f), () -> model.shown(d, n, f));
      default: return alike("areAlike()", () -> hall.areAlike(), () -> model.areAlike());
    }
  }

  private static final String[] TEXTS = {
    "once", "every days", "every 2 days for 5", "every weeks on mo we fr", "every 3 weeks on su until 400",
    "every months on 31", "every 2 months on last", "every months on last fr for 12", "every months on second tu we",
    "every years until 100000", "every months on fifth mo until 30", "every 99 years for 500", "once for 3", "once until 20",
    "every", "every 0 days", "every months on last for", "every weeks on mo tu until", "everydays", "every months on third"
  };
  private static final String[] TOKENS = {
    "once", "every", "days", "weeks", "months", "years", "on", "last", "first", "fifth", "mo", "tu", "su", "for", "until",
    "1", "2", "31", "99", "100", "500", "501", "10", "9", "146000", "146001", "0", "007", "99999999999999999999", "A", "dayz", "", " ", "\u00e9", "-1"
  };
  private String left = "";

  private boolean texts() {
    if (!left.isEmpty()) {
      long bytes = 0;
      int take = Math.min(left.length(), 8);
      for (int k = 0; k < take; k++) bytes = bytes << 8 | left.charAt(k);
      if (take < 8 && coin()) bytes <<= 8;
      left = left.substring(take);
      long typed = bytes;
      return alike("type(" + typed + ")", () -> hall.type(typed), () -> model.type(typed));
    }
    int n = series();
    switch (below(7)) {
      case 0: {
        left = TEXTS[below(TEXTS.length)];
        if (below(3) == 0) left = left.replace(TOKENS[below(20)], TOKENS[below(TOKENS.length)]);
        if (below(5) == 0) left = left + " " + TOKENS[below(TOKENS.length)];
        if (below(5) == 0) left = " " + left.replace(" ", "  ") + " ";
        return alike("clearText()", () -> hall.clearText(), () -> model.clearText());
      }
      case 1: {
        if (below(4) == 0) return alike("type(all)", () -> hall.type(random7(0)), () -> model.type(random7(0)));
        return alike("errorPlace()", () -> hall.errorPlace(), () -> model.errorPlace());
      }
      case 2: return alike("errorPlace() " + model.text, () -> hall.errorPlace(), () -> model.errorPlace());
      case 3: return alike("readRule(" + n + ")", () -> hall.readRule(n), () -> model.readRule(n));
      case 4: return alike("write(" + n + ")", () -> hall.write(n), () -> model.write(n));
      default: {
        int p = in(0, Math.max(1, model.written.length()));
        return alike("writtenAt(" + p + ")", () -> hall.writtenAt(p), () -> model.writtenAt(p));
      }
    }
  }

  private long random7(int k) { return 0x6d6f207475206672L + k + run % 3; }

  private boolean questions(int which) {
    int n = series();
    switch (which) {
      case 0: {
        int y = in(2000, 2399), m = in(1, 12), d = in(1, 31);
        return alike("dayOf(" + y + "," + m + "," + d + ")", () -> hall.dayOf(y, m, d), () -> model.dayOf(y, m, d));
      }
      case 1: {
        int d = in(0, 146096), w = in(0, 4);
        return alike("dayAt(" + d + "," + w + ")", () -> hall.dayAt(d, w), () -> model.dayAt(d, w));
      }
      case 2: {
        int w = in(0, 12);
        return alike("seriesAt(" + n + "," + w + ")", () -> hall.seriesAt(n, w), () -> model.seriesAt(n, w));
      }
      case 3: {
        int d = coin() ? day() : in(10, 146000);
        return alike("nextDay(" + n + "," + d + ")", () -> hall.nextDay(n, d), () -> model.nextDay(n, d));
      }
      case 4: {
        int d = coin() ? day() : in(10, 146000), t = coin() ? in(10, 146000) : d + below(1000);
        return alike("countDays(" + n + "," + d + "," + t + ")", () -> hall.countDays(n, d, t), () -> model.countDays(n, d, t));
      }
      case 5: {
        int p = coin() ? below(10) : in(0, 500);
        return alike("dayOfSeries(" + n + "," + p + ")", () -> hall.dayOfSeries(n, p), () -> model.dayOfSeries(n, p));
      }
      case 6: case 7: {
        int d = dayOfSeries(n);
        return alike("begin(" + n + "," + d + ")", () -> hall.begin(n, d), () -> model.beginOf(n, d));
      }
      case 8: case 9: {
        int m = below(5) == 0 ? in(14400, 210240000) : minute();
        return alike("nextDate(" + n + "," + m + ")", () -> hall.nextDate(n, m), () -> model.nextDate(n, m));
      }
      case 10: {
        int f = minute(), t = behind(f, 525600);
        return alike("countDates(" + n + "," + f + "," + t + ")", () -> hall.countDates(n, f, t), () -> model.countDates(n, f, t));
      }
      default: {
        if (coin()) return alike("meanLength()", () -> hall.meanLength(), () -> model.meanLength());
        if (below(4) > 0) {
          int f = minute(), t = behind(f, 10080);
          return alike("checksum(" + f + "," + t + ")", () -> hall.checksum(f, t), () -> model.checksum(f, t));
        }
        return alike("errors()", () -> hall.errors(), () -> model.errors());
      }
    }
  }

  private boolean busy() {
    int p = person(), f = minute();
    switch (below(7)) {
      case 0: return alike("datesAt(" + p + "," + f + ")", () -> hall.datesAt(p, f), () -> model.datesAt(p, f));
      case 1: {
        int t = behind(f, 20160), w = in(0, 2);
        return alike("minutesOf(" + p + "," + f + "," + t + "," + w + ")", () -> hall.minutesOf(p, f, t, w), () -> model.minutesOf(p, f, t, w));
      }
      case 2: {
        int g = people(), t = behind(f, 20160), l = length();
        boolean w = coin();
        return alike("freeNext(" + g + "," + f + "," + t + "," + l + "," + w + ")", () -> hall.freeNext(g, f, t, l, w), () -> model.freeNext(g, f, t, l, w));
      }
      case 3: {
        int g = people(), t = behind(f, 10080), l = length();
        boolean c = coin();
        return alike("best(" + g + "," + f + "," + t + "," + l + "," + c + ")", () -> hall.best(g, f, t, l, c), () -> model.best(g, f, t, l, c));
      }
      case 4: {
        int t = behind(f, 10080);
        boolean isRight = alike("clashes(" + p + "," + f + "," + t + ")", () -> hall.clashes(p, f, t), () -> model.clashes(p, f, t));
        for (int k = 0; isRight && k < model.clashes.size() && k < 8 && asked < 510; k++) {
          int c = k, w = below(4);
          isRight = alike("clashAt(" + c + "," + w + ")", () -> hall.clashAt(c, w), () -> model.clashAt(c, w));
        }
        return isRight;
      }
      case 5: {
        int c = in(0, Math.max(1, model.clashes.size())), w = in(0, 3);
        return alike("clashAt(" + c + "," + w + ")", () -> hall.clashAt(c, w), () -> model.clashAt(c, w));
      }
      default: {
        int t = behind(f, 20160);
        return alike("busyShare(" + p + "," + f + "," + t + ")", () -> hall.busyShare(p, f, t), () -> model.busyShare(p, f, t));
      }
    }
  }

  private boolean rooms() {
    int f = minute(), t = behind(f, 10080);
    switch (below(5)) {
      case 0: return alike("roomsNeeded(" + f + "," + t + ")", () -> hall.roomsNeeded(f, t), () -> model.roomsNeeded(f, t));
      case 1: return alike("layRooms(" + f + "," + t + ")", () -> hall.layRooms(f, t), () -> model.layRooms(f, t));
      case 2: case 3: {
        int n = series(), d = dayOfSeries(n);
        if (!model.laid.isEmpty() && !rarely()) {
          int[] l = model.laid.get(below(model.laid.size()));
          return alike("roomOf(" + l[0] + "," + l[1] + ")", () -> hall.roomOf(l[0], l[1]), () -> model.roomOf(l[0], l[1]));
        }
        return alike("roomOf(" + n + "," + d + ")", () -> hall.roomOf(n, d), () -> model.roomOf(n, d));
      }
      default: return plans();
    }
  }

  private boolean plans() {
    int f = minute(), t = behind(f, below(3) == 0 ? 10080 : 1500);
    switch (below(4)) {
      case 0: case 1: {
        int m = coin() ? 4095 : in(1, 4095);
        boolean isRight = alike("plan(" + m + "," + f + "," + t + ")", () -> hall.plan(m, f, t), () -> model.plan(m, f, t));
        for (int k = 0; isRight && model.plan != null && k < model.plan.size() && asked < 510; k++) {
          int p = k;
          isRight = alike("planAt(" + p + ",2)", () -> hall.planAt(p, 2), () -> model.planAt(p, 2));
        }
        return isRight;
      }
      case 2: return below(3) > 0 || alike("applyPlan()", () -> hall.applyPlan(), () -> model.applyPlan());
      default: {
        int p = in(0, 4), w = in(0, 2);
        return alike("planAt(" + p + "," + w + ")", () -> hall.planAt(p, w), () -> model.planAt(p, w));
      }
    }
  }
}
