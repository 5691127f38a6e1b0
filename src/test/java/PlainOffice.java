import java.util.ArrayDeque;
import java.util.ArrayList;
import java.util.Comparator;
import java.util.Deque;
import java.util.HashSet;
import java.util.List;
import java.util.NoSuchElementException;
import java.util.Set;
import java.util.TreeSet;

/** The document once more, cell by cell and without a thought for speed, to compare the program with. */
final class PlainOffice {
  private static final class Lot {
    int zone;
    int front;
    Set<Integer> cells = new HashSet<>();

    Lot copy() {
      Lot copy = new Lot();
      copy.zone = zone;
      copy.front = front;
      copy.cells = cells;
      return copy;
    }
  }

  private static final class Variance {
    int lot;
    int kind;
    int amount;
    int lastDay;
  }

  private static final class Permit {
    int number;
    int lot;
    int use;
    int floors;
    int parking;
    Set<Integer> cells = new HashSet<>();
    int status;
    int reason;
    int phase;
    int failures;
    int limit;
    boolean extended;
    Set<Integer> named = new TreeSet<>();
    int paid;
    int back;
    List<int[]> conditions = new ArrayList<>();

    Permit copy() {
      Permit copy = new Permit();
      copy.number = number;
      copy.lot = lot;
      copy.use = use;
      copy.floors = floors;
      copy.parking = parking;
      copy.cells = cells;
      copy.status = status;
      copy.reason = reason;
      copy.phase = phase;
      copy.failures = failures;
      copy.limit = limit;
      copy.extended = extended;
      copy.named = new TreeSet<>(named);
      copy.paid = paid;
      copy.back = back;
      for (int[] condition : conditions) {
        copy.conditions.add(condition.clone());
      }
      return copy;
    }

    boolean stands() {
      return status == 2 || status == 3 || status == 6;
    }

    int floorArea() {
      return cells.size() * floors;
    }
  }

  private static final class State {
    int day;
    int[][] rules = {
      {2, 1, 50, 3, 10, 63, 1}, {2, 1, 50, 3, 10, 63, 1}, {2, 1, 50, 3, 10, 63, 1}, {2, 1, 50, 3, 10, 63, 1}};
    List<Lot> lots = new ArrayList<>();
    List<Permit> permits = new ArrayList<>();
    List<Variance> variances = new ArrayList<>();

    State copy() {
      State copy = new State();
      copy.day = day;
      for (int i = 0; i < 4; i++) {
        copy.rules[i] = rules[i].clone();
      }
      for (Lot lot : lots) {
        copy.lots.add(lot.copy());
      }
      for (Permit permit : permits) {
        copy.permits.add(permit.copy());
      }
      copy.variances.addAll(variances);
      return copy;
    }
  }

  private static final class BadText extends Exception {
    private static final long serialVersionUID = 1L;
    final int position;

    BadText(int position) {
      this.position = position;
    }
  }

  private State s = new State();
  private State saved = null;
  private final Deque<State> past = new ArrayDeque<>();
  private String buffer = "";
  private int error = -1;

  int append(int packed) {
    StringBuilder more = new StringBuilder();
    for (int i = 3; i >= 0; i--) {
      char c = (char) (packed >> 8 * i & 0xff);
      if (c != 0) {
        if (c < '!' || c > '~') {
          throw new IllegalArgumentException();
        }
        more.append(c);
      }
    }
    if (buffer.length() + more.length() > 60) {
      throw new IllegalStateException();
    }
    buffer += more;
    return buffer.length();
  }

  int execute() {
    String text = buffer;
    buffer = "";
    State before = s.copy();
    try {
      int commands = 0;
      int at = 0;
      do {
        at = command(text, at);
        commands++;
      } while (at < text.length());
      error = -1;
      push(before);
      return commands;
    } catch (BadText bad) {
      s = before;
      error = bad.position;
      throw new IllegalArgumentException();
    }
  }

  private void push(State before) {
    past.addLast(before);
    if (past.size() > 6) {
      past.removeFirst();
    }
  }

  private static char one(String text, int at, String allowed) throws BadText {
    if (at >= text.length() || allowed.indexOf(text.charAt(at)) < 0) {
      throw new BadText(at);
    }
    return text.charAt(at);
  }

  private static int digit(String text, int at, int least, int most) throws BadText {
    int value = one(text, at, "0123456789") - '0';
    if (value < least || value > most) {
      throw new BadText(at);
    }
    return value;
  }

  private static int numberEnd(String text, int at) throws BadText {
    if (one(text, at, "0123456789") == '0') {
      return at + 1;
    }
    boolean two = at + 1 < text.length() && Character.isDigit(text.charAt(at + 1));
    return two ? at + 2 : at + 1;
  }

  private static int number(String text, int at, int least, int most) throws BadText {
    int value = Integer.parseInt(text.substring(at, numberEnd(text, at)));
    if (value < least || value > most) {
      throw new BadText(at);
    }
    return value;
  }

  private static int area(String text, int from, Set<Integer> cells) throws BadText {
    int at = from;
    for (int rectangles = 0; ; rectangles++) {
      if (rectangles > 0 && at < text.length() && text.charAt(at) == ';') {
        return at;
      }
      int column = one(text, at, "abcdefghijklmnopqrst") - 'a';
      if (rectangles == 3) {
        throw new BadText(at);
      }
      int row = one(text, at + 1, "abcdefghijklmn") - 'a';
      int width = digit(text, at + 2, 1, 9);
      int height = digit(text, at + 3, 1, 9);
      for (int c = column; c < column + width; c++) {
        for (int r = row; r < row + height; r++) {
          if (c > 19 || r > 13) {
            throw new BadText(at);
          }
          cells.add(c * 100 + r);
        }
      }
      at += 4;
    }
  }

  private int command(String text, int at) throws BadText {
    switch (one(text, at, "LPVCZ")) {
      case 'L': return lotCommand(text, at);
      case 'P': return permitCommand(text, at);
      case 'V': return varianceCommand(text, at);
      case 'C': return conditionCommand(text, at);
      default: return ruleCommand(text, at);
    }
  }

  private int lotCommand(String text, int at) throws BadText {
    if (s.lots.size() == 8) {
      throw new BadText(at);
    }
    Lot lot = new Lot();
    lot.zone = digit(text, at + 1, 0, 3);
    lot.front = "NESW".indexOf(one(text, at + 2, "NESW"));
    int end = area(text, at + 3, lot.cells);
    for (int cell : lot.cells) {
      if (lotAt(cell) >= 0) {
        throw new BadText(end);
      }
    }
    s.lots.add(lot);
    return end + 1;
  }

  private int permitCommand(String text, int at) throws BadText {
    if (s.permits.size() == 10) {
      throw new BadText(at);
    }
    Permit permit = new Permit();
    permit.number = s.permits.size();
    permit.lot = digit(text, at + 1, 0, s.lots.size() - 1);
    permit.use = digit(text, at + 2, 0, 5);
    permit.floors = digit(text, at + 3, 1, 9);
    permit.parking = digit(text, at + 4, 0, 9);
    int end = area(text, at + 5, permit.cells);
    permit.paid = 20 + permit.floorArea();
    s.permits.add(permit);
    return end + 1;
  }

  private int varianceCommand(String text, int at) throws BadText {
    if (s.variances.size() == 12) {
      throw new BadText(at);
    }
    Variance variance = new Variance();
    variance.lot = digit(text, at + 1, 0, s.lots.size() - 1);
    variance.kind = digit(text, at + 2, 2, 8);
    variance.amount = number(text, at + 3, 1, 99);
    int comma = numberEnd(text, at + 3);
    one(text, comma, ",");
    variance.lastDay = s.day + number(text, comma + 1, 0, 99);
    int end = numberEnd(text, comma + 1);
    one(text, end, ";");
    s.variances.add(variance);
    return end + 1;
  }

  private int conditionCommand(String text, int at) throws BadText {
    Permit permit = s.permits.isEmpty() ? null : s.permits.get(digit(text, at + 1, 0, s.permits.size() - 1));
    if (permit == null) {
      throw new BadText(at + 1);
    }
    int phase = digit(text, at + 2, 0, 3);
    char letter = one(text, at + 3, "abcdefghijklmnopqrstuvwxyz");
    if (permit.conditions.size() == 6) {
      throw new BadText(at + 3);
    }
    one(text, at + 4, ";");
    permit.conditions.add(new int[] {phase, letter, 1});
    return at + 5;
  }

  private int ruleCommand(String text, int at) throws BadText {
    int zone = digit(text, at + 1, 0, 3);
    int rule = digit(text, at + 2, 0, 6);
    int[] least = {0, 0, 0, 1, 1, 0, 0};
    int[] most = {9, 9, 99, 9, 99, 63, 9};
    int value = number(text, at + 3, least[rule], most[rule]);
    int end = numberEnd(text, at + 3);
    one(text, end, ";");
    s.rules[zone][rule] = value;
    return end + 1;
  }

  int errorPosition() {
    return error;
  }

  private static void index(boolean good) {
    if (!good) {
      throw new IndexOutOfBoundsException();
    }
  }

  private static void argument(boolean good) {
    if (!good) {
      throw new IllegalArgumentException();
    }
  }

  private static void state(boolean good) {
    if (!good) {
      throw new IllegalStateException();
    }
  }

  private static void element(boolean good) {
    if (!good) {
      throw new NoSuchElementException();
    }
  }

  private static boolean in(int value, int least, int most) {
    return value >= least && value <= most;
  }

  int rule(int zone, int rule) {
    index(in(zone, 0, 3));
    argument(in(rule, 0, 6));
    return s.rules[zone][rule];
  }

  private int lotAt(int cell) {
    for (int i = 0; i < s.lots.size(); i++) {
      if (s.lots.get(i).cells.contains(cell)) {
        return i;
      }
    }
    return -1;
  }

  private List<Permit> others(int lot, Permit own) {
    List<Permit> others = new ArrayList<>();
    for (Permit permit : s.permits) {
      if (permit.stands() && permit.lot == lot && permit != own) {
        others.add(permit);
      }
    }
    return others;
  }

  private Set<Integer> built(int lot, Permit own) {
    Set<Integer> cells = new HashSet<>();
    for (Permit permit : others(lot, own)) {
      cells.addAll(permit.cells);
    }
    return cells;
  }

  private static final int[] STEPS = {-1, 100, 1, -100};

  /** Cells are 100 apart from column to column, and no row is -1 or 14, so that no step wraps round into a lot. */
  private int distance(Lot lot, int cell, int direction) {
    int distance = 0;
    if (lot.cells.contains(cell)) {
      for (int c = cell + STEPS[direction]; lot.cells.contains(c); c += STEPS[direction]) {
        distance++;
      }
    }
    return distance;
  }

  int lot(int lot, int what) {
    index(in(lot, 0, s.lots.size() - 1));
    argument(in(what, 0, 5));
    Lot l = s.lots.get(lot);
    int sides = 0;
    for (int cell : l.cells) {
      for (int step : STEPS) {
        sides += l.cells.contains(cell + step) ? 0 : 1;
      }
    }
    Set<Integer> covered = built(lot, null);
    covered.retainAll(l.cells);
    int floorArea = others(lot, null).stream().mapToInt(Permit::floorArea).sum();
    return new int[] {l.zone, l.front, l.cells.size(), covered.size(), floorArea, sides}[what];
  }

  int rezone(int lot, int zone) {
    index(in(lot, 0, s.lots.size() - 1));
    argument(in(zone, 0, 3));
    push(s.copy());
    int previous = s.lots.get(lot).zone;
    s.lots.get(lot).zone = zone;
    return previous;
  }

  int cell(int column, int row, int what) {
    index(in(column, 0, 19) && in(row, 0, 13));
    argument(in(what, 0, 5));
    int cell = column * 100 + row;
    int lot = lotAt(cell);
    if (what == 0) {
      return lot;
    }
    if (what == 1) {
      return s.permits.stream().filter(p -> p.stands() && p.cells.contains(cell)).mapToInt(p -> p.number).min().orElse(-1);
    }
    return lot < 0 ? 0 : distance(s.lots.get(lot), cell, what - 2);
  }

  int largest(int lot) {
    index(in(lot, 0, s.lots.size() - 1));
    Lot l = s.lots.get(lot);
    Set<Integer> built = built(lot, null);
    boolean[][] free = new boolean[20][14];
    for (int cell : l.cells) {
      boolean good = !built.contains(cell);
      for (int d = 0; d < 4; d++) {
        good &= distance(l, cell, d) >= s.rules[l.zone][d == l.front ? 0 : 1];
      }
      free[cell / 100][cell % 100] = good;
    }
    int most = 0;
    for (int cell = 0; cell < 280; cell++) {
      for (int size = 0; size < 280; size++) {
        int cells = (size % 20 + 1) * (size / 20 + 1);
        if (cells > most && allFree(free, cell % 20, cell / 20, size % 20 + 1, size / 20 + 1)) {
          most = cells;
        }
      }
    }
    return most;
  }

  private static boolean allFree(boolean[][] free, int column, int row, int width, int height) {
    for (int c = column; c < column + width; c++) {
      for (int r = row; r < row + height; r++) {
        if (c > 19 || r > 13 || !free[c][r]) {
          return false;
        }
      }
    }
    return true;
  }

  private Permit known(int permit) {
    index(in(permit, 0, s.permits.size() - 1));
    return s.permits.get(permit);
  }

  private static int bits(Iterable<Integer> set) {
    int bits = 0;
    for (int bit : set) {
      bits |= 1 << bit;
    }
    return bits;
  }

  private static int open(Permit p) {
    return (int) p.conditions.stream().filter(c -> c[2] == 1).count();
  }

  int permit(int permit, int what) {
    Permit p = known(permit);
    argument(in(what, 0, 12));
    return new int[] {p.status, p.lot, p.use, p.floors, p.parking, p.cells.size(), p.floorArea(), p.phase,
      p.failures, p.status == 2 ? p.limit : -1, bits(p.named), open(p), p.conditions.size()}[what];
  }

  private static int share(int factor, int part, int whole) {
    return (int) Math.ceil(factor * (double) part / whole - 1e-9);
  }

  private int measure(Permit p, int kind) {
    Lot l = s.lots.get(p.lot);
    Set<Integer> cells = new HashSet<>(p.cells);
    switch (kind) {
      case 0:
        cells.removeAll(l.cells);
        return cells.size();
      case 1:
        cells.retainAll(built(p.lot, p));
        return cells.size();
      case 2:
        return cells.stream().mapToInt(c -> distance(l, c, l.front)).min().getAsInt();
      case 3:
        return cells.stream().mapToInt(c -> Math.min(distance(l, c, (l.front + 1) % 4),
            Math.min(distance(l, c, (l.front + 2) % 4), distance(l, c, (l.front + 3) % 4)))).min().getAsInt();
      case 4:
        cells.addAll(built(p.lot, p));
        cells.retainAll(l.cells);
        return share(100, cells.size(), l.cells.size());
      case 5:
        return p.floors;
      case 6:
        int sum = p.floorArea() + others(p.lot, p).stream().mapToInt(Permit::floorArea).sum();
        return share(10, sum, l.cells.size());
      case 7:
        return p.use;
      default:
        return p.parking;
    }
  }

  private int limit(Permit p, int kind) {
    int[] rules = s.rules[s.lots.get(p.lot).zone];
    return kind < 2 ? 0 : kind == 8 ? share(rules[6], p.floorArea(), 10) : rules[kind - 2];
  }

  private static boolean bad(int kind, int measure, int limit) {
    if (kind == 7) {
      return (limit >> measure & 1) == 0;
    }
    return kind == 2 || kind == 3 || kind == 8 ? measure < limit : measure > limit;
  }

  private boolean found(Permit p, int kind) {
    return bad(kind, measure(p, kind), limit(p, kind));
  }

  private boolean helped(Permit p, int kind, int amount) {
    int limit = limit(p, kind);
    boolean lessens = kind == 2 || kind == 3 || kind == 8;
    return kind == 7 || !bad(kind, measure(p, kind), lessens ? Math.max(0, limit - amount) : limit + amount);
  }

  private int used(Permit p, int kind) {
    if (!found(p, kind)) {
      return -1;
    }
    List<Integer> helping = new ArrayList<>();
    for (int i = 0; i < s.variances.size(); i++) {
      Variance v = s.variances.get(i);
      if (v.lot == p.lot && v.kind == kind && s.day <= v.lastDay && helped(p, kind, v.amount)) {
        helping.add(i);
      }
    }
    return helping.stream().min(Comparator.comparingInt((Integer i) -> s.variances.get(i).amount)
        .thenComparingInt(i -> i)).orElse(-1);
  }

  private Set<Integer> kinds(Permit p, boolean relieved) {
    Set<Integer> kinds = new TreeSet<>();
    for (int kind = 0; kind < 9; kind++) {
      if (found(p, kind) && (!relieved || used(p, kind) >= 0)) {
        kinds.add(kind);
      }
    }
    return kinds;
  }

  private TreeSet<Integer> unrelieved(Permit p) {
    TreeSet<Integer> kinds = new TreeSet<>(kinds(p, false));
    kinds.removeAll(kinds(p, true));
    return kinds;
  }

  int findings(int permit, boolean relieved) {
    return bits(kinds(known(permit), relieved));
  }

  int finding(int permit, int kind, int what) {
    Permit p = known(permit);
    argument(in(kind, 0, 8) && in(what, 0, 2));
    return what == 0 ? measure(p, kind) : what == 1 ? limit(p, kind) : used(p, kind);
  }

  int worst() {
    Permit worst = null;
    for (Permit p : s.permits) {
      if (p.stands() && !unrelieved(p).isEmpty()) {
        worst = worst == null || unrelieved(p).size() > unrelieved(worst).size() ? p : worst;
      }
    }
    element(worst != null);
    return worst.number;
  }

  int decide(int permit) {
    Permit p = known(permit);
    state(p.status == 0);
    push(s.copy());
    TreeSet<Integer> unrelieved = unrelieved(p);
    if (unrelieved.isEmpty()) {
      for (int kind : kinds(p, true)) {
        p.named.add(used(p, kind));
        p.paid += 10;
      }
      p.status = 2;
      p.limit = s.day + 30;
    } else {
      p.status = 1;
      p.reason = unrelieved.first();
      p.back += (20 + p.floorArea()) / 2;
    }
    return p.status;
  }

  int reason(int permit) {
    Permit p = known(permit);
    element(p.status == 1);
    return p.reason;
  }

  int revoke(int permit) {
    Permit p = known(permit);
    state(p.status == 2 || p.status == 6);
    push(s.copy());
    p.status = 5;
    p.back += 2 * (4 - p.phase);
    return 2 * (4 - p.phase);
  }

  int urgent(int index) {
    List<Permit> order = new ArrayList<>();
    for (int status : new int[] {2, 6, 0}) {
      List<Permit> some = new ArrayList<>(s.permits);
      some.removeIf(p -> p.status != status);
      if (status == 2) {
        some.sort(Comparator.comparingInt(p -> p.limit));
      }
      order.addAll(some);
    }
    element(in(index, 0, order.size() - 1));
    return order.get(index).number;
  }

  int variance(int variance, int what) {
    index(in(variance, 0, s.variances.size() - 1));
    argument(in(what, 0, 5));
    Variance v = s.variances.get(variance);
    int naming = (int) s.permits.stream().filter(p -> p.named.contains(variance)).count();
    return new int[] {v.lot, v.kind, v.amount, v.lastDay, naming, s.day > v.lastDay ? 0 : 1}[what];
  }

  int needed(int permit, int kind) {
    Permit p = known(permit);
    argument(in(kind, 2, 8));
    if (!found(p, kind)) {
      return 0;
    }
    for (int amount = 1; amount < 100; amount++) {
      if (helped(p, kind, amount)) {
        return amount;
      }
    }
    return -1;
  }

  int condition(int permit, int index, int what) {
    Permit p = known(permit);
    index(in(index, 0, p.conditions.size() - 1));
    argument(in(what, 0, 2));
    return p.conditions.get(index)[what];
  }

  int fulfil(int permit, int letter) {
    Permit p = known(permit);
    element(p.conditions.stream().anyMatch(c -> c[1] == letter && c[2] == 1));
    push(s.copy());
    for (int[] condition : p.conditions) {
      condition[2] = condition[1] == letter ? 0 : condition[2];
    }
    return open(p);
  }

  boolean inspect(int permit) {
    Permit p = known(permit);
    state(p.status == 2);
    push(s.copy());
    p.paid += p.failures == 0 ? 0 : 5;
    if (p.conditions.stream().anyMatch(c -> c[0] == p.phase && c[2] == 1)) {
      p.failures++;
      p.status = p.failures == 3 ? 6 : 2;
      return false;
    }
    p.failures = 0;
    p.phase++;
    p.limit = s.day + 30;
    p.status = p.phase == 4 ? 3 : 2;
    return true;
  }

  int reinstate(int permit) {
    Permit p = known(permit);
    state(p.status == 6);
    push(s.copy());
    p.status = 2;
    p.failures = 0;
    p.limit = s.day + 30;
    p.paid += 25;
    return p.phase;
  }

  int extend(int permit) {
    Permit p = known(permit);
    state(p.status == 2 && !p.extended);
    push(s.copy());
    p.extended = true;
    p.paid += 15;
    p.limit += 15;
    return p.limit;
  }

  int pass(int days) {
    argument(in(days, 1, 50));
    push(s.copy());
    s.day += days;
    int expired = 0;
    for (Permit p : s.permits) {
      if (p.status == 2 && p.limit < s.day) {
        p.status = 4;
        expired++;
      }
    }
    return expired;
  }

  int account(int permit, int what) {
    index(in(permit, -1, s.permits.size() - 1));
    argument(in(what, 0, 2));
    int sum = 0;
    for (Permit p : permit == -1 ? s.permits : List.of(s.permits.get(permit))) {
      sum += what == 0 ? p.paid : what == 1 ? p.back : p.paid - p.back;
    }
    return sum;
  }

  float meanFloorArea() {
    List<Permit> standing = new ArrayList<>(s.permits);
    standing.removeIf(p -> !p.stands());
    if (standing.isEmpty()) {
      throw new ArithmeticException();
    }
    return (float) standing.stream().mapToInt(Permit::floorArea).sum() / (float) standing.size();
  }

  int count(int what) {
    argument(in(what, 0, 7) || in(what, 10, 16));
    if (what >= 10) {
      return (int) s.permits.stream().filter(p -> p.status == what - 10).count();
    }
    int standing = (int) s.permits.stream().filter(Permit::stands).count();
    int cells = s.lots.stream().mapToInt(l -> l.cells.size()).sum();
    return new int[] {s.lots.size(), s.permits.size(), s.variances.size(), s.day, standing, cells, past.size(),
      buffer.length()}[what];
  }

  int undo() {
    state(!past.isEmpty());
    s = past.removeLast();
    return past.size();
  }

  int save() {
    saved = s.copy();
    return s.permits.size();
  }

  int restore() {
    state(saved != null);
    s = saved.copy();
    past.clear();
    return s.permits.size();
  }
}
