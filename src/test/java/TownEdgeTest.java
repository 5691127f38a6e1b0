/** The edges that the document names for the town, its lots and zones, and for promises 1 and 5 to 9: a test for each sentence. */
public final class TownEdgeTest {
  private static final String COLUMNS = "abcdefghijklmnopqrst";
  private static final String ROWS = "abcdefghijklmn";

  public static void main(String[] args) {
    aNewOfficeIsEmpty();
    twentyColumnsAndFourteenRows();
    columnsAndRowsByTheirLetters();
    cellsBeyondTheTown();
    whatsOfCells();
    aCellWithoutALot();
    distancesOfCells();
    aCellInABuildingThatStands();
    widthsAndHeightsFrom1To9();
    cellsOfAnAreaCountOnce();
    lotsCanFillTheTown();
    fourFrontsAndFourZones();
    eightLots();
    lotsThatThereAreNot();
    firstValuesOfTheRules();
    rulesOfOneZoneOnly();
    zonesAndRulesThatThereAreNot();
    rezoneToEachZone();
    rezoneRefused();
    buildingsThatStandOnALot();
    sidesThatTouchNoCellOfTheLot();
    largestOfAnySize();
    largestThatJustFits();
    largestOverlapsNoBuildingThatStands();
    largestLeavesOtherFindingsAlone();
    largestRefused();
    Check.end();
  }

  private static void aNewOfficeIsEmpty() {
    PermitOffice o = new PermitOffice();
    for (int i = 0; i <= 7; i++) {
      int what = i;
      Check.due(0, () -> o.count(what));
      Check.due(0, () -> o.count(Math.min(16, 10 + what)));
    }
    Check.due(0, () -> o.account(-1, 0));
    Check.due(-1, o::errorPosition);
    for (int i = 0; i < 280; i++) {
      int cell = i;
      Check.due(-1, () -> o.cell(cell % 20, cell / 20, 0));
    }
    Desk.refused(Check.INDEX, o, () -> o.lot(0, 0));
    Desk.refused(Check.INDEX, o, () -> o.rezone(0, 0));
    Desk.refused(Check.INDEX, o, () -> o.largest(0));
    Desk.refused(Check.INDEX, o, () -> o.permit(0, 0));
    Desk.refused(Check.INDEX, o, () -> o.variance(0, 0));
    Desk.refused(Check.INDEX, o, () -> o.account(0, 0));
    Desk.refused(Check.NO_SUCH, o, o::worst);
    Desk.refused(Check.NO_SUCH, o, () -> o.urgent(0));
    Desk.refused(ArithmeticException.class, o, o::meanFloorArea);
    Desk.refused(Check.STATE, o, o::undo);
    Desk.refused(Check.STATE, o, o::restore);
  }

  private static void twentyColumnsAndFourteenRows() {
    PermitOffice o = Desk.office("L0Naa11;L0Nta11;L0Nan11;L0Ntn11;");
    Check.due(0, () -> o.cell(0, 0, 0));
    Check.due(1, () -> o.cell(19, 0, 0));
    Check.due(2, () -> o.cell(0, 13, 0));
    Check.due(3, () -> o.cell(19, 13, 0));
    Check.due(4, () -> o.count(5));
  }

  private static void columnsAndRowsByTheirLetters() {
    for (int i = 0; i < 280; i++) {
      int column = i % 20;
      int row = i / 20;
      PermitOffice o = Desk.office("L0N" + COLUMNS.charAt(column) + ROWS.charAt(row) + "11;");
      Check.due(0, () -> o.cell(column, row, 0));
      Check.due(1, () -> o.count(5));
    }
  }

  /** The town is full, so that a cell beyond it that were taken for another one would have a lot. */
  private static void cellsBeyondTheTown() {
    PermitOffice o = full();
    for (int column : new int[] {-20, -1, 20, 21, 31, 32}) {
      Desk.refused(Check.INDEX, o, () -> o.cell(column, 1, 0));
      Desk.refused(Check.INDEX, o, () -> o.cell(column, 1, 6));
    }
    for (int row : new int[] {-14, -1, 14, 15, 16, 32}) {
      Desk.refused(Check.INDEX, o, () -> o.cell(1, row, 0));
      Desk.refused(Check.INDEX, o, () -> o.cell(1, row, -1));
    }
    for (int wild : Desk.WILD) {
      Desk.refused(Check.INDEX, o, () -> o.cell(wild, 0, 0));
      Desk.refused(Check.INDEX, o, () -> o.cell(0, wild, 0));
      Desk.refused(Check.INDEX, o, () -> o.cell(wild, wild, wild));
    }
  }

  private static void whatsOfCells() {
    PermitOffice o = full();
    for (int what : new int[] {-1, 6}) {
      Desk.refused(Check.ILLEGAL, o, () -> o.cell(0, 0, what));
      Desk.refused(Check.ILLEGAL, o, () -> o.cell(19, 13, what));
    }
    for (int wild : Desk.WILD) {
      Desk.refused(Check.ILLEGAL, o, () -> o.cell(19, 0, wild));
    }
    Check.due(0, () -> o.cell(0, 0, 5));
    Check.due(19, () -> o.cell(19, 0, 5));
  }

  private static void cellIs(PermitOffice o, int column, int row, int... want) {
    for (int i = 0; i < 6; i++) {
      int what = i;
      Check.due(want[i], () -> o.cell(column, row, what));
    }
  }

  private static void aCellWithoutALot() {
    PermitOffice o = Desk.office("L0Naa31aa13ca13;");
    cellIs(o, 1, 1, -1, -1, 0, 0, 0, 0);
    cellIs(o, 1, 2, -1, -1, 0, 0, 0, 0);
    cellIs(o, 3, 0, -1, -1, 0, 0, 0, 0);
    cellIs(o, 19, 13, -1, -1, 0, 0, 0, 0);
  }

  /** In the order of the directions: north, east, south, west; another lot is not in the lot. */
  private static void distancesOfCells() {
    PermitOffice o = Desk.office("L0Naa31aa13ca13;L0Nda99;L0Nna79nj75;");
    cellIs(o, 0, 0, 0, -1, 0, 2, 2, 0);
    cellIs(o, 0, 2, 0, -1, 2, 0, 0, 0);
    cellIs(o, 2, 1, 0, -1, 1, 0, 1, 0);
    cellIs(o, 1, 0, 0, -1, 0, 1, 0, 1);
    cellIs(o, 5, 1, 1, -1, 1, 6, 7, 2);
    cellIs(o, 19, 13, 2, -1, 13, 0, 0, 6);
    cellIs(o, 13, 0, 2, -1, 0, 6, 13, 0);
    PermitOffice all = full();
    Check.due(8, () -> all.cell(0, 0, 4));
    Check.due(19, () -> all.cell(0, 0, 3));
    Check.due(19, () -> all.cell(19, 13, 5));
  }

  private static PermitOffice full() {
    return Desk.office("L0Naa99ja99sa29;L0Naj95jj95sj25;");
  }

  private static void aCellInABuildingThatStands() {
    PermitOffice[] offices = Desk.officesByStatus();
    for (int status = 0; status < 7; status++) {
      PermitOffice o = offices[status];
      Check.due(Desk.stands(status) ? 0 : -1, () -> o.cell(4, 4, 1));
      Check.due(-1, () -> o.cell(4, 5, 1));
      Desk.execute(o, "P0011ee11;Z0563;");
      o.decide(1);
      Check.due(Desk.stands(status) ? 0 : 1, () -> o.cell(4, 4, 1));
    }
  }

  private static void widthsAndHeightsFrom1To9() {
    for (int i = 0; i < 81; i++) {
      int width = i / 9 + 1;
      int height = i % 9 + 1;
      PermitOffice o = Desk.office("L0Naa" + width + height + ";");
      Check.due(width * height, () -> o.lot(0, 2));
      Check.due(2 * (width + height), () -> o.lot(0, 5));
      Check.due(0, () -> o.cell(width - 1, height - 1, 0));
      Check.due(-1, () -> o.cell(width, height - 1, 0));
      Check.due(-1, () -> o.cell(width - 1, height, 0));
    }
  }

  private static void cellsOfAnAreaCountOnce() {
    PermitOffice o = Desk.office("L0Naa11aa11aa11;L0Nba33cb33dc33;", "P0010aa22bb22cc22;P0020aa99aa99aa99;");
    Check.due(1, () -> o.lot(0, 2));
    Check.due(19, () -> o.lot(1, 2));
    Check.due(20, () -> o.count(5));
    Check.due(10, () -> o.permit(0, 5));
    Check.due(10, () -> o.permit(0, 6));
    Check.due(81, () -> o.permit(1, 5));
    Check.due(162, () -> o.permit(1, 6));
  }

  private static void lotsCanFillTheTown() {
    PermitOffice o = full();
    Check.due(280, () -> o.count(5));
    Check.due(180, () -> o.lot(0, 2));
    Check.due(100, () -> o.lot(1, 2));
    for (String cell : new String[] {"aa", "ta", "an", "tn", "ii", "ij", "ri", "sj"}) {
      Desk.errorAt(7, o, "L0N" + cell + "11;");
    }
  }

  private static void fourFrontsAndFourZones() {
    PermitOffice o = Desk.office("L0Naa11;L1Eba11;L2Sca11;L3Wda11;");
    for (int i = 0; i < 4; i++) {
      int lot = i;
      Check.due(lot, () -> o.lot(lot, 0));
      Check.due(lot, () -> o.lot(lot, 1));
    }
  }

  private static void eightLots() {
    PermitOffice o = new PermitOffice();
    for (int i = 0; i < 8; i++) {
      int lot = i;
      int wanted = lot % 4;
      Desk.refused(Check.INDEX, o, () -> o.lot(lot, 0));
      Desk.execute(o, "L" + wanted + "N" + COLUMNS.charAt(lot) + "a11;");
      Check.due(wanted, () -> o.lot(lot, 0));
      Check.due(lot, () -> o.cell(lot, 0, 0));
      Check.due(lot + 1, () -> o.count(0));
    }
    Desk.refused(Check.INDEX, o, () -> o.lot(8, 0));
    Desk.errorAt(0, o, "L0Nia11;");
  }

  private static void lotsThatThereAreNot() {
    PermitOffice o = Desk.office("L0Naa99;L0Nja99;");
    for (int what : new int[] {-1, 6}) {
      Desk.refused(Check.ILLEGAL, o, () -> o.lot(0, what));
      Desk.refused(Check.ILLEGAL, o, () -> o.lot(1, what));
      Desk.refused(Check.INDEX, o, () -> o.lot(-1, what));
      Desk.refused(Check.INDEX, o, () -> o.lot(2, what));
    }
    for (int wild : Desk.WILD) {
      Desk.refused(Check.ILLEGAL, o, () -> o.lot(0, wild));
      Desk.refused(Check.INDEX, o, () -> o.lot(wild, 0));
      Desk.refused(Check.INDEX, o, () -> o.lot(wild, wild));
    }
    Check.due(0, () -> o.lot(1, 0));
    Check.due(36, () -> o.lot(1, 5));
  }

  private static void firstValuesOfTheRules() {
    int[] first = {2, 1, 50, 3, 10, 63, 1};
    PermitOffice o = new PermitOffice();
    for (int i = 0; i < 28; i++) {
      int rule = i;
      Check.due(first[i % 7], () -> o.rule(rule / 7, rule % 7));
    }
  }

  private static void rulesOfOneZoneOnly() {
    int[] first = {2, 1, 50, 3, 10, 63, 1};
    for (int i = 0; i < 28; i++) {
      PermitOffice o = Desk.office("Z" + i / 7 + i % 7 + "7;");
      for (int k = 0; k < 28; k++) {
        int rule = k;
        Check.due(k == i ? 7 : first[k % 7], () -> o.rule(rule / 7, rule % 7));
      }
    }
  }

  /** The last zone is 1 when it is multiplied by 7 and loses its upper bits. */
  private static void zonesAndRulesThatThereAreNot() {
    PermitOffice o = new PermitOffice();
    for (int zone : new int[] {-1, 4, -1227133513}) {
      Desk.refused(Check.INDEX, o, () -> o.rule(zone, 0));
      Desk.refused(Check.INDEX, o, () -> o.rule(zone, 6));
      Desk.refused(Check.INDEX, o, () -> o.rule(zone, -1));
      Desk.refused(Check.INDEX, o, () -> o.rule(zone, 7));
    }
    for (int rule : new int[] {-1, 7, 14, 28}) {
      Desk.refused(Check.ILLEGAL, o, () -> o.rule(0, rule));
      Desk.refused(Check.ILLEGAL, o, () -> o.rule(3, rule));
    }
    for (int wild : Desk.WILD) {
      Desk.refused(Check.INDEX, o, () -> o.rule(wild, 0));
      Desk.refused(Check.INDEX, o, () -> o.rule(wild, wild));
      Desk.refused(Check.ILLEGAL, o, () -> o.rule(0, wild));
    }
  }

  private static void rezoneToEachZone() {
    PermitOffice o = Desk.office("L2Naa99;L1Nja99;");
    int[] zones = {0, 3, 3, 1, 2};
    int previous = 2;
    for (int i = 0; i < zones.length; i++) {
      int zone = zones[i];
      int before = previous;
      int undoable = i + 2;
      Check.due(before, () -> o.rezone(0, zone));
      Check.due(zone, () -> o.lot(0, 0));
      Check.due(1, () -> o.lot(1, 0));
      Check.due(undoable, () -> o.count(6));
      previous = zone;
    }
  }

  private static void rezoneRefused() {
    PermitOffice o = Desk.office("L0Naa99;L0Nja99;");
    for (int zone : new int[] {-1, 4}) {
      Desk.refused(Check.ILLEGAL, o, () -> o.rezone(0, zone));
      Desk.refused(Check.ILLEGAL, o, () -> o.rezone(1, zone));
      Desk.refused(Check.INDEX, o, () -> o.rezone(-1, zone));
      Desk.refused(Check.INDEX, o, () -> o.rezone(2, zone));
    }
    for (int wild : Desk.WILD) {
      Desk.refused(Check.ILLEGAL, o, () -> o.rezone(0, wild));
      Desk.refused(Check.INDEX, o, () -> o.rezone(wild, 0));
    }
  }

  private static void buildingsThatStandOnALot() {
    PermitOffice[] offices = Desk.officesByStatus();
    for (int status = 0; status < 7; status++) {
      PermitOffice o = offices[status];
      Desk.execute(o, "L0Nja99;P0010cc22;");
      Check.due(Desk.stands(status) ? 1 : 0, () -> o.lot(0, 3));
      Check.due(Desk.stands(status) ? 1 : 0, () -> o.lot(0, 4));
      Check.due(0, () -> o.lot(1, 3));
      Check.due(0, () -> o.lot(1, 4));
    }
  }

  private static void sidesThatTouchNoCellOfTheLot() {
    sides(4, "aa11");
    sides(4, "tn11");
    sides(42, "an91jn91sn21");
    sides(30, "aa19aj15");
    sides(8, "aa11bb11");
    sides(8, "aa11ca11");
    sides(12, "aa11ca11cc11");
    sides(16, "aa31aa13ca13");
    sides(12, "ba11ab31bc11");
    sides(54, "aa99ja99");
    PermitOffice ring = Desk.office("L0Naa51ab14eb14;L0Nbb11;L0Nbe31;");
    Check.due(13 * 2 + 2, () -> ring.lot(0, 5));
    Check.due(4, () -> ring.lot(1, 5));
    Check.due(8, () -> ring.lot(2, 5));
  }

  private static void sides(int sides, String area) {
    PermitOffice o = Desk.office("L0N" + area + ";");
    Check.due(sides, () -> o.lot(0, 5));
  }

  private static int largestWith(String lot, String rules) {
    return Desk.office(lot + ";", rules).largest(0);
  }

  /** A building of one rectangle can be wider than those of a text. */
  private static void largestOfAnySize() {
    Check.due(180, () -> largestWith("L0Naa99ja99sa29", "Z000;Z010;"));
    Check.due(13 * 9, () -> largestWith("L0Naa99aj94", "Z000;Z010;"));
    Check.due(11 * 7, () -> largestWith("L0Naa99aj95", "Z002;Z011;"));
    Check.due(14, () -> largestWith("L0Wta19tj15", "Z000;Z010;"));
    Check.due(20, () -> largestWith("L0Wan91jn91sn21", "Z000;Z010;"));
    Check.due(9, () -> largestWith("L0Naa51ab51ac53", "Z001;Z011;"));
  }

  private static void largestThatJustFits() {
    for (int front = 0; front <= 9; front++) {
      for (int side = 0; side <= 9; side++) {
        int width = Math.max(0, 9 - 2 * side);
        int height = Math.max(0, 9 - front - side);
        String rules = "Z00" + front + ";Z01" + side + ";";
        Check.due(width * height, () -> largestWith("L0Naa99", rules));
        Check.due(width * height, () -> largestWith("L0Elf99", rules));
        Check.due(width * height, () -> largestWith("L0Sla99", rules));
        Check.due(width * height, () -> largestWith("L0Waf99", rules));
        Check.due(front == 0 && side == 0 ? 1 : 0, () -> largestWith("L0Wtn11", rules));
      }
    }
  }

  private static void largestOverlapsNoBuildingThatStands() {
    PermitOffice[] offices = Desk.officesByStatus();
    for (int status = 0; status < 7; status++) {
      PermitOffice o = offices[status];
      Desk.execute(o, "L0Nja99;P0010cc22;");
      Check.due(Desk.stands(status) ? 21 : 42, () -> o.largest(0));
      Check.due(42, () -> o.largest(1));
    }
    PermitOffice full = Desk.office("L0Naa11;Z000;Z010;Z0299;P0011aa11;V041,9;");
    Check.due(1, () -> full.largest(0));
    full.decide(0);
    Check.due(2, () -> full.permit(0, 0));
    Check.due(0, () -> full.largest(0));
  }

  /** Coverage, floor area, use and parking don't count, and neither do variances. */
  private static void largestLeavesOtherFindingsAlone() {
    Check.due(42, () -> largestWith("L0Naa99", "Z020;Z031;Z041;Z050;Z069;"));
    Check.due(42, () -> largestWith("L0Naa99", "V029,9;V039,9;V0499,9;"));
  }

  private static void largestRefused() {
    PermitOffice o = Desk.office("L0Naa99;L0Nja99;");
    Check.due(42, () -> o.largest(1));
    Desk.refused(Check.INDEX, o, () -> o.largest(-1));
    Desk.refused(Check.INDEX, o, () -> o.largest(2));
    for (int wild : Desk.WILD) {
      Desk.refused(Check.INDEX, o, () -> o.largest(wild));
    }
  }
}
