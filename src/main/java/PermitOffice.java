import java.util.NoSuchElementException;

/**
 * An office for building permits.
 *
 * <p>All towns, areas and rows are made in the constructor and used again, because what a run of calls makes is
 * counted: no call makes an object but the exception that it throws.
 */
public final class PermitOffice {
  private static final int NONE = -1;

  private static final int COLUMNS = 20;
  private static final int ROWS = 14;
  private static final int DIRECTIONS = 4;
  private static final int RECTANGLES = 3;
  private static final int NORTH = 0;
  private static final int EAST = 1;
  private static final int SOUTH = 2;
  private static final int WEST = 3;

  private static final int LOTS = 8;
  private static final int PERMITS = 10;
  private static final int VARIANCES = 12;
  private static final int CONDITIONS = 6;
  private static final int TEXT = 60;
  private static final int UNDOABLE = 6;

  private static final int ZONES = 4;
  private static final int RULES = 7;
  private static final int FRONT_SETBACK = 0;
  private static final int SIDE_SETBACK = 1;
  private static final int MOST_COVERAGE = 2;
  private static final int MOST_HEIGHT = 3;
  private static final int MOST_FLOOR_AREA = 4;
  private static final int ALLOWED_USES = 5;
  private static final int PARKING_RATE = 6;
  private static final int[] FIRST_RULES = {2, 1, 50, 3, 10, 63, 1};
  private static final int[] LEAST_RULES = {0, 0, 0, 1, 1, 0, 0};
  private static final int[] GREATEST_RULES = {9, 9, 99, 9, 99, 63, 9};

  private static final int KINDS = 9;
  private static final int OUTSIDE = 0;
  private static final int OVERLAP = 1;
  private static final int FRONT = 2;
  private static final int SIDE = 3;
  private static final int COVERAGE = 4;
  private static final int HEIGHT = 5;
  private static final int FLOOR_AREA = 6;
  private static final int USE = 7;
  private static final int PARKING = 8;
  private static final int USES = 6;
  private static final int GREATEST_AMOUNT = 99;

  private static final int STATUSES = 7;
  private static final int APPLIED = 0;
  private static final int REFUSED = 1;
  private static final int ISSUED = 2;
  private static final int FINISHED = 3;
  private static final int EXPIRED = 4;
  private static final int REVOKED = 5;
  private static final int SUSPENDED = 6;

  private static final int PHASES = 4;
  private static final int FAILURES = 3;
  private static final int TERM = 30;
  private static final int EXTENSION = 15;
  private static final int GREATEST_PASS = 50;

  private static final int APPLY_FEE = 20;
  private static final int VARIANCE_FEE = 10;
  private static final int INSPECTION_FEE = 5;
  private static final int REINSTATE_FEE = 25;
  private static final int EXTEND_FEE = 15;
  private static final int PHASE_REFUND = 2;

  private static final int NOT_URGENT = 3000000;
  private static final int APPLIED_URGENCY = 2000000;
  private static final int SUSPENDED_URGENCY = 1000000;

  private final Reader reader = new Reader();
  private final Survey survey = new Survey();
  private final Town now = new Town();
  private final Town draft = new Town();
  private final Town snapshot = new Town();
  private boolean hasSnapshot = false;
  private final Town[] past = new Town[UNDOABLE];
  private int undoable = 0;

  public PermitOffice() {
    for (int i = 0; i < UNDOABLE; i++) {
      past[i] = new Town();
    }
  }

  public int append(int packed) throws IllegalArgumentException, IllegalStateException {
    int added = 0;
    for (int shift = 24; shift >= 0; shift -= 8) {
      int code = packed >>> shift & 255;
      if (code != 0 && (code < 33 || code > 126)) {
        throw new IllegalArgumentException("a byte is no character of a text");
      }
      if (code != 0) {
        added++;
      }
    }
    if (reader.length + added > TEXT) {
      throw new IllegalStateException("there would be too many characters");
    }
    for (int shift = 24; shift >= 0; shift -= 8) {
      int code = packed >>> shift & 255;
      if (code != 0) {
        reader.addCharacter((char) code);
      }
    }
    return reader.length;
  }

  public int execute() throws IllegalArgumentException {
    draft.copyFrom(now);
    int commands = reader.readInto(draft);
    if (commands == NONE) {
      throw new IllegalArgumentException("an error in the text");
    }
    remember();
    now.copyFrom(draft);
    return commands;
  }

  public int errorPosition() {
    return reader.error;
  }

  public int rule(int zone, int rule) throws IndexOutOfBoundsException, IllegalArgumentException {
    if (zone < 0 || zone >= ZONES) {
      throw new IndexOutOfBoundsException("no such zone");
    }
    if (rule < 0 || rule >= RULES) {
      throw new IllegalArgumentException("no such rule");
    }
    return now.ruleOf(zone, rule);
  }

  public int lot(int lot, int what) throws IndexOutOfBoundsException, IllegalArgumentException {
    Lot asked = lotOrThrow(lot);
    switch (what) {
      case 0: return asked.zone;
      case 1: return asked.front;
      case 2: return asked.cells;
      case 3: return survey.builtCells(now, lot);
      case 4: return now.standingFloorArea(lot, null);
      case 5: return asked.area.untouchedSides();
      default: throw new IllegalArgumentException("no such number about a lot");
    }
  }

  public int rezone(int lot, int zone) throws IndexOutOfBoundsException, IllegalArgumentException {
    Lot changed = lotOrThrow(lot);
    if (zone < 0 || zone >= ZONES) {
      throw new IllegalArgumentException("no such zone");
    }
    remember();
    int previous = changed.zone;
    changed.zone = zone;
    return previous;
  }

  public int cell(int column, int row, int what) throws IndexOutOfBoundsException, IllegalArgumentException {
    if (column < 0 || column >= COLUMNS || row < 0 || row >= ROWS) {
      throw new IndexOutOfBoundsException("no such cell");
    }
    if (what < 0 || what > 1 + DIRECTIONS) {
      throw new IllegalArgumentException("no such number about a cell");
    }
    if (what == 0) {
      return now.lotWith(column, row);
    }
    if (what == 1) {
      return now.standingPermitWith(column, row);
    }
    return survey.distance(now, column, row, what - 2);
  }

  public int largest(int lot) throws IndexOutOfBoundsException {
    lotOrThrow(lot);
    return survey.largestBuilding(now, lot);
  }

  public int permit(int permit, int what) throws IndexOutOfBoundsException, IllegalArgumentException {
    Permit asked = permitOrThrow(permit);
    switch (what) {
      case 0: return asked.status;
      case 1: return asked.lot;
      case 2: return asked.use;
      case 3: return asked.floors;
      case 4: return asked.parking;
      case 5: return asked.cells;
      case 6: return asked.floorArea();
      case 7: return asked.phase;
      case 8: return asked.failures;
      case 9: return asked.status == ISSUED ? asked.limit : NONE;
      case 10: return asked.named;
      case 11: return asked.openConditions();
      case 12: return asked.conditions;
      default: throw new IllegalArgumentException("no such number about a permit");
    }
  }

  public int findings(int permit, boolean relieved) throws IndexOutOfBoundsException {
    Permit asked = permitOrThrow(permit);
    return relieved ? survey.relievedSet(now, asked) : survey.findingSet(now, asked);
  }

  public int finding(int permit, int kind, int what) throws IndexOutOfBoundsException, IllegalArgumentException {
    Permit asked = permitOrThrow(permit);
    if (kind < 0 || kind >= KINDS) {
      throw new IllegalArgumentException("no such kind of findings");
    }
    switch (what) {
      case 0: return survey.measureOf(now, asked, kind);
      case 1: return survey.limitOf(now, asked, kind);
      case 2: return survey.usedVariance(now, asked, kind);
      default: throw new IllegalArgumentException("no such number about a finding");
    }
  }

  public int worst() throws NoSuchElementException {
    int worst = NONE;
    int most = 0;
    for (int i = 0; i < now.permitCount; i++) {
      Permit permit = now.permits[i];
      int unrelieved = permit.stands() ? Integer.bitCount(survey.unrelievedSet(now, permit)) : 0;
      if (unrelieved > most) {
        worst = i;
        most = unrelieved;
      }
    }
    if (worst == NONE) {
      throw new NoSuchElementException("no permit that stands has a finding that is not relieved");
    }
    return worst;
  }

  public int decide(int permit) throws IndexOutOfBoundsException, IllegalStateException {
    Permit decided = permitOrThrow(permit);
    if (decided.status != APPLIED) {
      throw new IllegalStateException("the permit is not applied for");
    }
    remember();
    int unrelieved = survey.unrelievedSet(now, decided);
    if (unrelieved == 0) {
      decided.becomeIssued(now.day, survey.usedVariances(now, decided));
    } else {
      decided.becomeRefused(lowestKind(unrelieved));
    }
    return decided.status;
  }

  public int reason(int permit) throws IndexOutOfBoundsException, NoSuchElementException {
    Permit asked = permitOrThrow(permit);
    if (asked.status != REFUSED) {
      throw new NoSuchElementException("the permit was not refused");
    }
    return asked.refusedFor;
  }

  public int revoke(int permit) throws IndexOutOfBoundsException, IllegalStateException {
    Permit revoked = permitOrThrow(permit);
    if (revoked.status != ISSUED && revoked.status != SUSPENDED) {
      throw new IllegalStateException("the permit is neither issued nor suspended");
    }
    remember();
    int refund = PHASE_REFUND * (PHASES - revoked.phase);
    revoked.status = REVOKED;
    revoked.givenBack += refund;
    return refund;
  }

  public int urgent(int index) throws NoSuchElementException {
    int found = now.permitInUrgency(index);
    if (found == NONE) {
      throw new NoSuchElementException("no such index");
    }
    return found;
  }

  public int variance(int variance, int what) throws IndexOutOfBoundsException, IllegalArgumentException {
    if (variance < 0 || variance >= now.varianceCount) {
      throw new IndexOutOfBoundsException("no such variance");
    }
    Variance asked = now.variances[variance];
    switch (what) {
      case 0: return asked.lot;
      case 1: return asked.kind;
      case 2: return asked.amount;
      case 3: return asked.lastDay;
      case 4: return now.permitsNaming(variance);
      case 5: return asked.isInForce(now.day) ? 1 : 0;
      default: throw new IllegalArgumentException("no such number about a variance");
    }
  }

  public int needed(int permit, int kind) throws IndexOutOfBoundsException, IllegalArgumentException {
    Permit asked = permitOrThrow(permit);
    if (kind < FRONT || kind > PARKING) {
      throw new IllegalArgumentException("no such kind of variances");
    }
    return survey.neededAmount(now, asked, kind);
  }

  public int condition(int permit, int index, int what) throws IndexOutOfBoundsException, IllegalArgumentException {
    Permit asked = permitOrThrow(permit);
    if (index < 0 || index >= asked.conditions) {
      throw new IndexOutOfBoundsException("no such condition");
    }
    switch (what) {
      case 0: return asked.phases[index];
      case 1: return asked.letters[index];
      case 2: return asked.isOpen(index) ? 1 : 0;
      default: throw new IllegalArgumentException("no such number about a condition");
    }
  }

  public int fulfil(int permit, int letter) throws IndexOutOfBoundsException, NoSuchElementException {
    Permit fulfilled = permitOrThrow(permit);
    int closed = fulfilled.openSetWithLetter(letter);
    if (closed == 0) {
      throw new NoSuchElementException("no open condition with this letter");
    }
    remember();
    fulfilled.openSet &= ~closed;
    return fulfilled.openConditions();
  }

  public boolean inspect(int permit) throws IndexOutOfBoundsException, IllegalStateException {
    Permit inspected = permitOrThrow(permit);
    if (inspected.status != ISSUED) {
      throw new IllegalStateException("the permit is not issued");
    }
    remember();
    if (inspected.failures > 0) {
      inspected.paid += INSPECTION_FEE;
    }
    boolean passed = !inspected.hasOpenInPhase();
    if (passed) {
      inspected.passPhase(now.day);
    } else {
      inspected.failPhase();
    }
    return passed;
  }

  public int reinstate(int permit) throws IndexOutOfBoundsException, IllegalStateException {
    Permit reinstated = permitOrThrow(permit);
    if (reinstated.status != SUSPENDED) {
      throw new IllegalStateException("the permit is not suspended");
    }
    remember();
    reinstated.status = ISSUED;
    reinstated.failures = 0;
    reinstated.limit = now.day + TERM;
    reinstated.paid += REINSTATE_FEE;
    return reinstated.phase;
  }

  public int extend(int permit) throws IndexOutOfBoundsException, IllegalStateException {
    Permit extended = permitOrThrow(permit);
    if (extended.status != ISSUED || extended.wasExtended) {
      throw new IllegalStateException("the permit is not issued, or was extended already");
    }
    remember();
    extended.wasExtended = true;
    extended.limit += EXTENSION;
    extended.paid += EXTEND_FEE;
    return extended.limit;
  }

  public int pass(int days) throws IllegalArgumentException {
    if (days < 1 || days > GREATEST_PASS) {
      throw new IllegalArgumentException("the number of days is out of range");
    }
    remember();
    now.day += days;
    int expired = 0;
    for (int i = 0; i < now.permitCount; i++) {
      Permit permit = now.permits[i];
      if (permit.status == ISSUED && now.day > permit.limit) {
        permit.status = EXPIRED;
        expired++;
      }
    }
    return expired;
  }

  public int account(int permit, int what) throws IndexOutOfBoundsException, IllegalArgumentException {
    if (permit < NONE || permit >= now.permitCount) {
      throw new IndexOutOfBoundsException("no such permit");
    }
    if (what < 0 || what > 2) {
      throw new IllegalArgumentException("no such number about an account");
    }
    int paid = 0;
    int givenBack = 0;
    for (int i = 0; i < now.permitCount; i++) {
      if (permit == NONE || permit == i) {
        paid += now.permits[i].paid;
        givenBack += now.permits[i].givenBack;
      }
    }
    return what == 0 ? paid : what == 1 ? givenBack : paid - givenBack;
  }

  public float meanFloorArea() throws ArithmeticException {
    int sum = 0;
    int standing = 0;
    for (int i = 0; i < now.permitCount; i++) {
      if (now.permits[i].stands()) {
        sum += now.permits[i].floorArea();
        standing++;
      }
    }
    if (standing == 0) {
      throw new ArithmeticException("no permit stands");
    }
    return (float) sum / (float) standing;
  }

  public int count(int what) throws IllegalArgumentException {
    switch (what) {
      case 0: return now.lotCount;
      case 1: return now.permitCount;
      case 2: return now.varianceCount;
      case 3: return now.day;
      case 4: return now.permitsWith(ISSUED) + now.permitsWith(FINISHED) + now.permitsWith(SUSPENDED);
      case 5: return now.cellsInLots();
      case 6: return undoable;
      case 7: return reader.length;
      default: break;
    }
    if (what < 10 || what >= 10 + STATUSES) {
      throw new IllegalArgumentException("no such count");
    }
    return now.permitsWith(what - 10);
  }

  public int undo() throws IllegalStateException {
    if (undoable <= 0 || undoable > UNDOABLE) {
      throw new IllegalStateException("nothing can be undone");
    }
    undoable--;
    now.copyFrom(past[undoable]);
    return undoable;
  }

  public int save() {
    snapshot.copyFrom(now);
    hasSnapshot = true;
    return now.permitCount;
  }

  public int restore() throws IllegalStateException {
    if (!hasSnapshot) {
      throw new IllegalStateException("there is no snapshot");
    }
    now.copyFrom(snapshot);
    undoable = 0;
    return now.permitCount;
  }

  /** Keeps the town as it is before a call that can be undone; the oldest one kept gives its place up. */
  private void remember() {
    if (undoable >= UNDOABLE) {
      Town oldest = past[0];
      for (int i = 1; i < UNDOABLE; i++) {
        past[i - 1] = past[i];
      }
      past[UNDOABLE - 1] = oldest;
      undoable = UNDOABLE - 1;
    }
    past[undoable].copyFrom(now);
    undoable++;
  }

  private Lot lotOrThrow(int lot) {
    if (lot < 0 || lot >= now.lotCount) {
      throw new IndexOutOfBoundsException("no such lot");
    }
    return now.lots[lot];
  }

  private Permit permitOrThrow(int permit) {
    if (permit < 0 || permit >= now.permitCount) {
      throw new IndexOutOfBoundsException("no such permit");
    }
    return now.permits[permit];
  }

  private static int lowestKind(int kinds) {
    for (int kind = 0; kind < KINDS; kind++) {
      if ((kinds & 1 << kind) != 0) {
        return kind;
      }
    }
    return NONE;
  }

  /** A set of cells of the town: a row is an int, and its bit c is the cell of column c. */
  private static final class Area {
    private final int[] rows = new int[ROWS];

    void clear() {
      for (int row = 0; row < ROWS; row++) {
        rows[row] = 0;
      }
    }

    void copyFrom(Area other) {
      System.arraycopy(other.rows, 0, rows, 0, ROWS);
    }

    void addRectangle(int column, int row, int width, int height) {
      int cells = (1 << width) - 1 << column;
      for (int i = 0; i < ROWS; i++) {
        if (i >= row && i < row + height) {
          rows[i] |= cells;
        }
      }
    }

    void addAll(Area other) {
      for (int row = 0; row < ROWS; row++) {
        rows[row] |= other.rows[row];
      }
    }

    void removeAll(Area other) {
      for (int row = 0; row < ROWS; row++) {
        rows[row] &= ~other.rows[row];
      }
    }

    void keepAll(Area other) {
      for (int row = 0; row < ROWS; row++) {
        rows[row] &= other.rows[row];
      }
    }

    /** Takes off the cells whose neighbour in the direction is not in it; the row before is kept as it was for that. */
    void takeEdgeOff(int direction) {
      int before = 0;
      for (int i = 0; i < ROWS; i++) {
        int row = direction == SOUTH ? ROWS - 1 - i : i;
        int old = rows[row];
        int neighbours = before;
        if (direction == EAST) {
          neighbours = old >> 1;
        } else if (direction == WEST) {
          neighbours = old << 1;
        }
        rows[row] = old & neighbours;
        before = old;
      }
    }

    boolean hasCell(int column, int row) {
      return (rowOf(row) & 1 << column) != 0;
    }

    boolean hasAll(Area other) {
      for (int row = 0; row < ROWS; row++) {
        if ((other.rows[row] & ~rows[row]) != 0) {
          return false;
        }
      }
      return true;
    }

    int size() {
      return cellsIn(this);
    }

    int cellsIn(Area other) {
      int cells = 0;
      for (int row = 0; row < ROWS; row++) {
        cells += Integer.bitCount(rows[row] & other.rows[row]);
      }
      return cells;
    }

    int cellsOutside(Area other) {
      return size() - cellsIn(other);
    }

    int untouchedSides() {
      int sides = 0;
      for (int row = 0; row < ROWS; row++) {
        int cells = rows[row];
        sides += Integer.bitCount(cells & ~rowOf(row - 1)) + Integer.bitCount(cells & ~rowOf(row + 1));
        sides += Integer.bitCount(cells & ~(cells << 1)) + Integer.bitCount(cells & ~(cells >> 1));
      }
      return sides;
    }

    int largestRectangle() {
      int most = 0;
      for (int top = 0; top < ROWS; top++) {
        int common = rows[top];
        for (int bottom = top; bottom < ROWS; bottom++) {
          common &= rows[bottom];
          most = Math.max(most, (bottom - top + 1) * longestRun(common));
        }
      }
      return most;
    }

    private int rowOf(int row) {
      return row >= 0 && row < ROWS ? rows[row] : 0;
    }

    private static int longestRun(int cells) {
      int left = cells;
      int run = 0;
      while (left != 0 && run < COLUMNS) {
        left &= left << 1;
        run++;
      }
      return run;
    }
  }

  private static final class Lot {
    private int zone;
    private int front;
    private final Area area = new Area();
    private int cells;

    void copyFrom(Lot other) {
      zone = other.zone;
      front = other.front;
      area.copyFrom(other.area);
      cells = other.cells;
    }
  }

  private static final class Variance {
    private int lot;
    private int kind;
    private int amount;
    private int lastDay;

    void copyFrom(Variance other) {
      lot = other.lot;
      kind = other.kind;
      amount = other.amount;
      lastDay = other.lastDay;
    }

    boolean isInForce(int day) {
      return day <= lastDay;
    }
  }

  private static final class Permit {
    private int lot;
    private int use;
    private int floors;
    private int parking;
    private final Area building = new Area();
    private int cells;
    private int status;
    private int refusedFor;
    private int phase;
    private int failures;
    private int limit;
    private boolean wasExtended;
    private int named;
    private int paid;
    private int givenBack;
    private int conditions;
    private int openSet;
    private final int[] phases = new int[CONDITIONS];
    private final int[] letters = new int[CONDITIONS];

    /** The object is used again, and may hold what an undone or a wrong text left in it. */
    void clear() {
      lot = 0;
      use = 0;
      floors = 0;
      parking = 0;
      building.clear();
      cells = 0;
      status = APPLIED;
      refusedFor = NONE;
      phase = 0;
      failures = 0;
      limit = NONE;
      wasExtended = false;
      named = 0;
      paid = 0;
      givenBack = 0;
      conditions = 0;
      openSet = 0;
    }

    void copyFrom(Permit other) {
      lot = other.lot;
      use = other.use;
      floors = other.floors;
      parking = other.parking;
      building.copyFrom(other.building);
      cells = other.cells;
      status = other.status;
      refusedFor = other.refusedFor;
      phase = other.phase;
      failures = other.failures;
      limit = other.limit;
      wasExtended = other.wasExtended;
      named = other.named;
      paid = other.paid;
      givenBack = other.givenBack;
      conditions = other.conditions;
      openSet = other.openSet;
      System.arraycopy(other.phases, 0, phases, 0, CONDITIONS);
      System.arraycopy(other.letters, 0, letters, 0, CONDITIONS);
    }

    boolean stands() {
      return status == ISSUED || status == FINISHED || status == SUSPENDED;
    }

    int floorArea() {
      return cells * floors;
    }

    int applyFee() {
      return APPLY_FEE + floorArea();
    }

    void becomeIssued(int day, int variances) {
      status = ISSUED;
      limit = day + TERM;
      named = variances;
      paid += VARIANCE_FEE * Integer.bitCount(variances);
    }

    void becomeRefused(int kind) {
      status = REFUSED;
      refusedFor = kind;
      givenBack += applyFee() / 2;
    }

    void passPhase(int day) {
      phase++;
      failures = 0;
      limit = day + TERM;
      if (phase >= PHASES) {
        status = FINISHED;
      }
    }

    void failPhase() {
      failures++;
      if (failures >= FAILURES) {
        status = SUSPENDED;
      }
    }

    void addCondition(int itsPhase, int itsLetter) {
      if (conditions < CONDITIONS) {
        phases[conditions] = itsPhase;
        letters[conditions] = itsLetter;
        openSet |= 1 << conditions;
        conditions++;
      }
    }

    int openConditions() {
      return Integer.bitCount(openSet);
    }

    boolean isOpen(int index) {
      return (openSet & 1 << index) != 0;
    }

    boolean hasOpenInPhase() {
      for (int i = 0; i < CONDITIONS; i++) {
        if (isOpen(i) && phases[i] == phase) {
          return true;
        }
      }
      return false;
    }

    int openSetWithLetter(int letter) {
      int indices = 0;
      for (int i = 0; i < CONDITIONS; i++) {
        if (isOpen(i) && letters[i] == letter) {
          indices |= 1 << i;
        }
      }
      return indices;
    }

    /** Limits stay far below the numbers of the other statuses: a day is at most 50 times the calls. */
    int urgency() {
      switch (status) {
        case ISSUED: return limit;
        case SUSPENDED: return SUSPENDED_URGENCY;
        case APPLIED: return APPLIED_URGENCY;
        default: return NOT_URGENT;
      }
    }
  }

  /** All that a snapshot keeps and that undo gives back, and nothing else. */
  private static final class Town {
    private int day = 0;
    private final int[] rules = new int[ZONES * RULES];
    private final Lot[] lots = new Lot[LOTS];
    private int lotCount = 0;
    private final Permit[] permits = new Permit[PERMITS];
    private int permitCount = 0;
    private final Variance[] variances = new Variance[VARIANCES];
    private int varianceCount = 0;

    Town() {
      for (int i = 0; i < ZONES * RULES; i++) {
        rules[i] = FIRST_RULES[i % RULES];
      }
      for (int i = 0; i < LOTS; i++) {
        lots[i] = new Lot();
      }
      for (int i = 0; i < PERMITS; i++) {
        permits[i] = new Permit();
      }
      for (int i = 0; i < VARIANCES; i++) {
        variances[i] = new Variance();
      }
    }

    void copyFrom(Town other) {
      day = other.day;
      System.arraycopy(other.rules, 0, rules, 0, ZONES * RULES);
      lotCount = other.lotCount;
      for (int i = 0; i < lotCount; i++) {
        lots[i].copyFrom(other.lots[i]);
      }
      permitCount = other.permitCount;
      for (int i = 0; i < permitCount; i++) {
        permits[i].copyFrom(other.permits[i]);
      }
      varianceCount = other.varianceCount;
      for (int i = 0; i < varianceCount; i++) {
        variances[i].copyFrom(other.variances[i]);
      }
    }

    int ruleOf(int zone, int rule) {
      int index = zone * RULES + rule;
      return index >= 0 && index < ZONES * RULES ? rules[index] : 0;
    }

    void setRule(int zone, int rule, int value) {
      int index = zone * RULES + rule;
      if (index >= 0 && index < ZONES * RULES) {
        rules[index] = value;
      }
    }

    /** The reader lets no lot in that there is not; the test is there so that no index is ever used untested. */
    Lot lotAt(int lot) {
      return lot >= 0 && lot < lotCount ? lots[lot] : lots[0];
    }

    int ruleFor(int lot, int rule) {
      return ruleOf(lotAt(lot).zone, rule);
    }

    int lotWith(int column, int row) {
      for (int i = 0; i < lotCount; i++) {
        if (lots[i].area.hasCell(column, row)) {
          return i;
        }
      }
      return NONE;
    }

    int standingPermitWith(int column, int row) {
      for (int i = 0; i < permitCount; i++) {
        if (permits[i].stands() && permits[i].building.hasCell(column, row)) {
          return i;
        }
      }
      return NONE;
    }

    boolean hasLotCellIn(Area area) {
      for (int i = 0; i < lotCount; i++) {
        if (lots[i].area.cellsIn(area) > 0) {
          return true;
        }
      }
      return false;
    }

    int cellsInLots() {
      int cells = 0;
      for (int i = 0; i < lotCount; i++) {
        cells += lots[i].cells;
      }
      return cells;
    }

    private static boolean countsFor(Permit permit, int lot, Permit leftOut) {
      return permit != leftOut && permit.lot == lot && permit.stands();
    }

    int standingFloorArea(int lot, Permit leftOut) {
      int sum = 0;
      for (int i = 0; i < permitCount; i++) {
        if (countsFor(permits[i], lot, leftOut)) {
          sum += permits[i].floorArea();
        }
      }
      return sum;
    }

    void gatherBuildings(int lot, Permit leftOut, Area into) {
      into.clear();
      for (int i = 0; i < permitCount; i++) {
        if (countsFor(permits[i], lot, leftOut)) {
          into.addAll(permits[i].building);
        }
      }
    }

    int permitsWith(int status) {
      int found = 0;
      for (int i = 0; i < permitCount; i++) {
        if (permits[i].status == status) {
          found++;
        }
      }
      return found;
    }

    int permitsNaming(int variance) {
      int found = 0;
      for (int i = 0; i < permitCount; i++) {
        if ((permits[i].named & 1 << variance) != 0) {
          found++;
        }
      }
      return found;
    }

    int permitInUrgency(int index) {
      for (int i = 0; i < permitCount; i++) {
        if (permits[i].urgency() != NOT_URGENT && permitsBefore(i) == index) {
          return i;
        }
      }
      return NONE;
    }

    private int permitsBefore(int permit) {
      int urgency = permit >= 0 && permit < PERMITS ? permits[permit].urgency() : NOT_URGENT;
      int before = 0;
      for (int i = 0; i < permitCount; i++) {
        int other = permits[i].urgency();
        if (other < urgency || other == urgency && i < permit) {
          before++;
        }
      }
      return before;
    }
  }

  private static final class Survey {
    private final Area built = new Area();
    private final Area deep = new Area();

    int measureOf(Town town, Permit permit, int kind) {
      Lot lot = town.lotAt(permit.lot);
      switch (kind) {
        case OUTSIDE: return permit.building.cellsOutside(lot.area);
        case OVERLAP: return overlap(town, permit);
        case FRONT: return leastDistance(permit.building, lot.area, lot.front);
        case SIDE: return leastSideDistance(permit.building, lot);
        case COVERAGE: return coverage(town, permit, lot);
        case HEIGHT: return permit.floors;
        case FLOOR_AREA: return floorAreaShare(town, permit, lot);
        case USE: return permit.use;
        case PARKING: return permit.parking;
        default: return 0;
      }
    }

    int limitOf(Town town, Permit permit, int kind) {
      switch (kind) {
        case FRONT: return town.ruleFor(permit.lot, FRONT_SETBACK);
        case SIDE: return town.ruleFor(permit.lot, SIDE_SETBACK);
        case COVERAGE: return town.ruleFor(permit.lot, MOST_COVERAGE);
        case HEIGHT: return town.ruleFor(permit.lot, MOST_HEIGHT);
        case FLOOR_AREA: return town.ruleFor(permit.lot, MOST_FLOOR_AREA);
        case USE: return town.ruleFor(permit.lot, ALLOWED_USES);
        case PARKING: return dividedUp(town.ruleFor(permit.lot, PARKING_RATE) * permit.floorArea(), 10);
        default: return 0;
      }
    }

    int findingSet(Town town, Permit permit) {
      int kinds = 0;
      for (int kind = 0; kind < KINDS; kind++) {
        if (isFinding(kind, measureOf(town, permit, kind), limitOf(town, permit, kind))) {
          kinds |= 1 << kind;
        }
      }
      return kinds;
    }

    int relievedSet(Town town, Permit permit) {
      int kinds = 0;
      for (int kind = 0; kind < KINDS; kind++) {
        if (usedVariance(town, permit, kind) != NONE) {
          kinds |= 1 << kind;
        }
      }
      return kinds;
    }

    int unrelievedSet(Town town, Permit permit) {
      int kinds = findingSet(town, permit);
      for (int kind = 0; kind < KINDS; kind++) {
        if (usedVariance(town, permit, kind) != NONE) {
          kinds &= ~(1 << kind);
        }
      }
      return kinds;
    }

    int usedVariances(Town town, Permit permit) {
      int used = 0;
      for (int kind = 0; kind < KINDS; kind++) {
        int variance = usedVariance(town, permit, kind);
        if (variance != NONE) {
          used |= 1 << variance;
        }
      }
      return used;
    }

    int usedVariance(Town town, Permit permit, int kind) {
      int measure = measureOf(town, permit, kind);
      int limit = limitOf(town, permit, kind);
      int used = NONE;
      int least = GREATEST_AMOUNT + 1;
      if (!isFinding(kind, measure, limit)) {
        return NONE;
      }
      for (int i = 0; i < town.varianceCount; i++) {
        Variance variance = town.variances[i];
        boolean fits = variance.lot == permit.lot && variance.kind == kind && variance.isInForce(town.day);
        if (fits && variance.amount < least && helps(kind, variance.amount, measure, limit)) {
          used = i;
          least = variance.amount;
        }
      }
      return used;
    }

    int neededAmount(Town town, Permit permit, int kind) {
      int measure = measureOf(town, permit, kind);
      int limit = limitOf(town, permit, kind);
      if (!isFinding(kind, measure, limit)) {
        return 0;
      }
      int amount = kind == USE ? 1 : Math.abs(measure - limit);
      return amount <= GREATEST_AMOUNT ? amount : NONE;
    }

    int builtCells(Town town, int lot) {
      town.gatherBuildings(lot, null, built);
      return built.cellsIn(town.lotAt(lot).area);
    }

    int distance(Town town, int column, int row, int direction) {
      int lot = town.lotWith(column, row);
      if (lot == NONE) {
        return 0;
      }
      built.clear();
      built.addRectangle(column, row, 1, 1);
      return leastDistance(built, town.lotAt(lot).area, direction);
    }

    int largestBuilding(Town town, int lot) {
      Lot asked = town.lotAt(lot);
      town.gatherBuildings(lot, null, deep);
      built.copyFrom(asked.area);
      built.removeAll(deep);
      for (int direction = 0; direction < DIRECTIONS; direction++) {
        int setback = town.ruleFor(lot, direction == asked.front ? FRONT_SETBACK : SIDE_SETBACK);
        deep.copyFrom(asked.area);
        for (int i = 0; i < setback; i++) {
          deep.takeEdgeOff(direction);
        }
        built.keepAll(deep);
      }
      return built.largestRectangle();
    }

    private int overlap(Town town, Permit permit) {
      town.gatherBuildings(permit.lot, permit, built);
      return permit.building.cellsIn(built);
    }

    private int coverage(Town town, Permit permit, Lot lot) {
      town.gatherBuildings(permit.lot, permit, built);
      built.addAll(permit.building);
      return dividedUp(100 * built.cellsIn(lot.area), lot.cells);
    }

    private int floorAreaShare(Town town, Permit permit, Lot lot) {
      int sum = permit.floorArea() + town.standingFloorArea(permit.lot, permit);
      return dividedUp(10 * sum, lot.cells);
    }

    private int leastSideDistance(Area building, Lot lot) {
      int least = COLUMNS;
      for (int direction = 0; direction < DIRECTIONS; direction++) {
        if (direction != lot.front) {
          least = Math.min(least, leastDistance(building, lot.area, direction));
        }
      }
      return least;
    }

    /** A building is as deep in a lot as the edge can be taken off in the direction without touching it. */
    private int leastDistance(Area building, Area lot, int direction) {
      if (!lot.hasAll(building)) {
        return 0;
      }
      deep.copyFrom(lot);
      for (int distance = 0; distance < COLUMNS; distance++) {
        deep.takeEdgeOff(direction);
        if (!deep.hasAll(building)) {
          return distance;
        }
      }
      return COLUMNS;
    }

    private static boolean isFinding(int kind, int measure, int limit) {
      switch (kind) {
        case FRONT:
        case SIDE:
        case PARKING:
          return measure < limit;
        case USE:
          return (limit & 1 << measure) == 0;
        default:
          return measure > limit;
      }
    }

    private static boolean helps(int kind, int amount, int measure, int limit) {
      switch (kind) {
        case FRONT:
        case SIDE:
        case PARKING:
          return !isFinding(kind, measure, Math.max(0, limit - amount));
        case USE:
          return true;
        default:
          return !isFinding(kind, measure, limit + amount);
      }
    }

    private static int dividedUp(int dividend, int divisor) {
      return divisor <= 0 ? 0 : (dividend + divisor - 1) / divisor;
    }
  }

  private static final class Reader {
    private final char[] text = new char[TEXT];
    private int length = 0;
    private int position = 0;
    private int error = NONE;

    void addCharacter(char character) {
      if (length >= 0 && length < TEXT) {
        text[length] = character;
        length++;
      }
    }

    /** The town is half changed behind an error, so it should be a draft. */
    int readInto(Town town) {
      position = 0;
      error = NONE;
      int commands = 0;
      boolean good;
      do {
        good = readCommand(town);
        commands++;
      } while (good && position < length && commands < TEXT);
      length = 0;
      return good ? commands : NONE;
    }

    private boolean readCommand(Town town) {
      switch (next()) {
        case 'L': return readLot(town);
        case 'P': return readPermit(town);
        case 'V': return readVariance(town);
        case 'C': return readCondition(town);
        case 'Z': return readRule(town);
        default: return failAt(position);
      }
    }

    private boolean readLot(Town town) {
      if (town.lotCount >= LOTS) {
        return failAt(position);
      }
      position++;
      Lot lot = town.lots[town.lotCount];
      lot.zone = readValue('0', 0, ZONES - 1);
      if (lot.zone == NONE) {
        return false;
      }
      lot.front = readFront();
      if (lot.front == NONE || !readArea(lot.area)) {
        return false;
      }
      if (next() == ';' && town.hasLotCellIn(lot.area)) {
        return failAt(position);
      }
      lot.cells = lot.area.size();
      town.lotCount++;
      return readSign(';');
    }

    private boolean readPermit(Town town) {
      if (town.permitCount >= PERMITS) {
        return failAt(position);
      }
      position++;
      Permit permit = town.permits[town.permitCount];
      permit.clear();
      permit.lot = readValue('0', 0, town.lotCount - 1);
      if (permit.lot == NONE) {
        return false;
      }
      permit.use = readValue('0', 0, USES - 1);
      if (permit.use == NONE) {
        return false;
      }
      permit.floors = readValue('0', 1, 9);
      if (permit.floors == NONE) {
        return false;
      }
      permit.parking = readValue('0', 0, 9);
      if (permit.parking == NONE || !readArea(permit.building)) {
        return false;
      }
      permit.cells = permit.building.size();
      permit.paid = permit.applyFee();
      town.permitCount++;
      return readSign(';');
    }

    private boolean readVariance(Town town) {
      if (town.varianceCount >= VARIANCES) {
        return failAt(position);
      }
      position++;
      Variance variance = town.variances[town.varianceCount];
      variance.lot = readValue('0', 0, town.lotCount - 1);
      if (variance.lot == NONE) {
        return false;
      }
      variance.kind = readValue('0', FRONT, PARKING);
      if (variance.kind == NONE) {
        return false;
      }
      variance.amount = readNumber(1, GREATEST_AMOUNT);
      if (variance.amount == NONE || !readSign(',')) {
        return false;
      }
      int days = readNumber(0, 99);
      if (days == NONE) {
        return false;
      }
      variance.lastDay = town.day + days;
      town.varianceCount++;
      return readSign(';');
    }

    private boolean readCondition(Town town) {
      position++;
      int number = readValue('0', 0, town.permitCount - 1);
      if (number == NONE) {
        return false;
      }
      int phase = readValue('0', 0, PHASES - 1);
      if (phase == NONE) {
        return false;
      }
      Permit permit = town.permits[number];
      int letter = next();
      if (permit.conditions >= CONDITIONS || letter < 'a' || letter > 'z') {
        return failAt(position);
      }
      position++;
      permit.addCondition(phase, letter);
      return readSign(';');
    }

    private boolean readRule(Town town) {
      position++;
      int zone = readValue('0', 0, ZONES - 1);
      if (zone == NONE) {
        return false;
      }
      int rule = readValue('0', 0, RULES - 1);
      if (rule == NONE) {
        return false;
      }
      int value = readNumber(LEAST_RULES[rule], GREATEST_RULES[rule]);
      if (value == NONE) {
        return false;
      }
      town.setRule(zone, rule, value);
      return readSign(';');
    }

    private boolean readArea(Area area) {
      area.clear();
      for (int i = 0; i < RECTANGLES && (i == 0 || next() != ';'); i++) {
        if (!readRectangle(area)) {
          return false;
        }
      }
      return true;
    }

    private boolean readRectangle(Area area) {
      int start = position;
      int column = readValue('a', 0, COLUMNS - 1);
      if (column == NONE) {
        return false;
      }
      int row = readValue('a', 0, ROWS - 1);
      if (row == NONE) {
        return false;
      }
      int width = readValue('0', 1, 9);
      if (width == NONE) {
        return false;
      }
      int height = readValue('0', 1, 9);
      if (height == NONE) {
        return false;
      }
      if (column + width > COLUMNS || row + height > ROWS) {
        return failAt(start);
      }
      area.addRectangle(column, row, width, height);
      return true;
    }

    private int readFront() {
      int sign = next();
      position++;
      switch (sign) {
        case 'N': return NORTH;
        case 'E': return EAST;
        case 'S': return SOUTH;
        case 'W': return WEST;
        default:
          failAt(position - 1);
          return NONE;
      }
    }

    private int readNumber(int least, int most) {
      int start = position;
      int value = readValue('0', 0, 9);
      if (value == NONE) {
        return NONE;
      }
      if (value > 0 && next() >= '0' && next() <= '9') {
        value = 10 * value + readValue('0', 0, 9);
      }
      if (value < least || value > most) {
        failAt(start);
        return NONE;
      }
      return value;
    }

    private boolean readSign(char sign) {
      if (next() != sign) {
        return failAt(position);
      }
      position++;
      return true;
    }

    private int readValue(char zero, int least, int most) {
      int value = next() - zero;
      if (value < least || value > most) {
        failAt(position);
        return NONE;
      }
      position++;
      return value;
    }

    /** Answers 0 at the end, because no text has that character and so every reader refuses it there. */
    private int next() {
      return position >= 0 && position < length && position < TEXT ? text[position] : 0;
    }

    private boolean failAt(int where) {
      error = where;
      return false;
    }
  }
}
