/** The edges that the document names for findings, and for promises 11 to 13: a test for each sentence. */
public final class FindingEdgeTest {
  private static final String LETTERS = "abcdefghijklmnopqrst";

  public static void main(String[] args) {
    noCellMayBeOutside();
    noCellMayOverlapWithAPermitThatStands();
    overlapIsOfOneLot();
    frontDistanceAtLeastTheSetback();
    distanceOfACellNotInTheLot();
    beyondTheTownIsNotInTheLot();
    distanceEndsAtTheFirstCellNotInTheLot();
    sideIsTheLeastOfTheOtherThree();
    leastDistanceOfTheCellsCounts();
    coverageAtMostTheRule();
    coverageIsRoundedUp();
    coverageOfThePermitItselfWhateverItsStatus();
    coverageCountsACellOnce();
    floorsAtMostTheHeight();
    floorAreaAtMostTheRule();
    floorAreaOfOthersThatStand();
    floorAreaOfThePermitItselfOnce();
    useInTheSet();
    parkingAtLeastTheRule();
    rulesAreThoseOfTheZoneOfTheLot();
    findingsFromNoneToAll();
    permitsOfFindings();
    kindsAndWhatsOfFindings();
    worstHasTheMost();
    worstOfSeveralIsTheLowest();
    worstStands();
    Check.end();
  }

  private static void measured(PermitOffice o, int permit, int kind, int measure, int limit) {
    Check.due(measure, () -> o.finding(permit, kind, 0));
    Check.due(limit, () -> o.finding(permit, kind, 1));
  }

  private static void found(boolean found, PermitOffice o, int permit, int kind) {
    Check.due(found ? 1 : 0, () -> o.findings(permit, false) >> kind & 1);
  }

  private static void noCellMayBeOutside() {
    PermitOffice o = Desk.office("L0Naa99;P0010aa11;P0010ii11;P0010ia11;P0010ja11;", "P0010ia21;P0010aj11;P0010aa99bb99;");
    int[] outside = {0, 0, 0, 1, 1, 1, 17};
    for (int i = 0; i < 7; i++) {
      int permit = i;
      measured(o, permit, 0, outside[i], 0);
      found(outside[i] > 0, o, permit, 0);
      Check.due(-1, () -> o.finding(permit, 0, 2));
    }
  }

  private static void noCellMayOverlapWithAPermitThatStands() {
    PermitOffice[] offices = Desk.officesByStatus();
    for (int status = 0; status < 7; status++) {
      PermitOffice o = offices[status];
      Desk.execute(o, "P0011ee11;P0011de31;P0011fe11;");
      measured(o, 0, 1, 0, 0);
      measured(o, 1, 1, Desk.stands(status) ? 1 : 0, 0);
      measured(o, 2, 1, Desk.stands(status) ? 1 : 0, 0);
      measured(o, 3, 1, 0, 0);
      found(Desk.stands(status), o, 1, 1);
      Check.due(-1, () -> o.finding(1, 1, 2));
      found(false, o, 3, 1);
    }
  }

  private static void overlapIsOfOneLot() {
    PermitOffice o = Desk.office("L0Naa99;L0Nja99;P0011ee11;P1011ee11;P0011ee11;");
    o.decide(0);
    measured(o, 1, 1, 0, 0);
    measured(o, 2, 1, 1, 0);
  }

  private static void frontDistanceAtLeastTheSetback() {
    PermitOffice o = Desk.office("L0Naa99;");
    for (int row = 0; row < 9; row++) {
      Desk.execute(o, "P0011e" + LETTERS.charAt(row) + "11;");
    }
    for (int setback = 0; setback <= 9; setback++) {
      Desk.execute(o, "Z00" + setback + ";");
      for (int row = 0; row < 9; row++) {
        measured(o, row, 2, row, setback);
        found(row < setback, o, row, 2);
      }
    }
  }

  private static void distanceOfACellNotInTheLot() {
    PermitOffice o = Desk.office("L0Naa99;L0Nka99;P0011ee11ja11;P0011ja11;", "P0011oe11;P0011ee11tn11;");
    for (int permit = 0; permit < 4; permit++) {
      measured(o, permit, 2, 0, 2);
      measured(o, permit, 3, 0, 1);
      found(true, o, permit, 2);
      found(true, o, permit, 3);
    }
    Desk.execute(o, "Z000;Z010;");
    for (int permit = 0; permit < 4; permit++) {
      found(false, o, permit, 2);
      found(false, o, permit, 3);
    }
  }

  private static void beyondTheTownIsNotInTheLot() {
    for (int i = 0; i < 4; i++) {
      char front = "NESW".charAt(i);
      PermitOffice o = Desk.office("L0" + front + "aa99;L0" + front + "lf99;P0011aa11;P1011tn11;");
      measured(o, 0, 2, i == 0 || i == 3 ? 0 : 8, 2);
      measured(o, 1, 2, i == 1 || i == 2 ? 0 : 8, 2);
      measured(o, 0, 3, 0, 1);
      measured(o, 1, 3, 0, 1);
    }
    PermitOffice row = Desk.office("L0Wan91jn91sn21;P0011tn11;L0Eaa91ja91sa21;P1011aa11;");
    measured(row, 0, 2, 19, 2);
    measured(row, 1, 2, 19, 2);
  }

  /** The lot is a U turned round: beyond the gap in it there are more of its cells, which don't count. */
  private static void distanceEndsAtTheFirstCellNotInTheLot() {
    int[] left = {3, 0, 1, 0};
    int[] right = {3, 1, 1, 0};
    int[] sideOfRight = {0, 0, 0, 1};
    for (int i = 0; i < 4; i++) {
      PermitOffice o = Desk.office("L0" + "NESW".charAt(i) + "aa51ab14db24;P0011ad11;P0011dd11;");
      measured(o, 0, 2, left[i], 2);
      measured(o, 0, 3, 0, 1);
      measured(o, 1, 2, right[i], 2);
      measured(o, 1, 3, sideOfRight[i], 1);
    }
  }

  private static void sideIsTheLeastOfTheOtherThree() {
    int[] front = {3, 6, 5, 2};
    int[] side = {2, 2, 2, 3};
    for (int i = 0; i < 4; i++) {
      PermitOffice o = Desk.office("L0" + "NESW".charAt(i) + "aa99;P0011cd11;");
      for (int setback = 0; setback <= 9; setback++) {
        Desk.execute(o, "Z01" + setback + ";");
        measured(o, 0, 2, front[i], 2);
        measured(o, 0, 3, side[i], setback);
        found(side[i] < setback, o, 0, 3);
        found(false, o, 0, 2);
      }
    }
  }

  private static void leastDistanceOfTheCellsCounts() {
    int[] front = {1, 2, 3, 3};
    int[] side = {2, 1, 1, 1};
    for (int i = 0; i < 4; i++) {
      PermitOffice o = Desk.office("L0" + "NESW".charAt(i) + "aa99;P0011dc34eb11gf11;");
      measured(o, 0, 2, front[i], 2);
      measured(o, 0, 3, side[i], 1);
    }
  }

  private static void coverageAtMostTheRule() {
    PermitOffice o = Desk.office("L0Naa99ja92sa11;P0010aa95ja41;P0010aa95ja51;P0010aj91;", "P0010aa99ja92sa11;P0010aa99ja92;");
    int[] covered = {49, 50, 0, 100, 99};
    for (int rule = 0; rule <= 99; rule++) {
      Desk.execute(o, "Z02" + rule + ";");
      for (int permit = 0; permit < 5; permit++) {
        measured(o, permit, 4, covered[permit], rule);
        found(covered[permit] > rule, o, permit, 4);
      }
    }
  }

  private static void coverageIsRoundedUp() {
    PermitOffice three = Desk.office("L0Naa31;P0010aa11;P0010aa21;P0010aa31;P0010ab11;");
    int[] ofThree = {34, 67, 100, 0};
    for (int permit = 0; permit < 4; permit++) {
      measured(three, permit, 4, ofThree[permit], 50);
    }
    PermitOffice large = Desk.office("L0Naa99;P0010aa85;P0010aa85ia11;P0010aa11;", "P0010aa99;P0010aa98;");
    int[] ofLarge = {50, 51, 2, 100, 89};
    for (int permit = 0; permit < 5; permit++) {
      measured(large, permit, 4, ofLarge[permit], 50);
      found(ofLarge[permit] > 50, large, permit, 4);
    }
  }

  private static void coverageOfThePermitItselfWhateverItsStatus() {
    PermitOffice[] offices = Desk.officesByStatus();
    for (int status = 0; status < 7; status++) {
      PermitOffice o = offices[status];
      Desk.execute(o, "L0Nja99;P0011cc11;P1011ll11;");
      measured(o, 0, 4, 2, 50);
      measured(o, 1, 4, Desk.stands(status) ? 3 : 2, 50);
      measured(o, 2, 4, 0, 50);
    }
  }

  private static void coverageCountsACellOnce() {
    PermitOffice o = Desk.office("L0Naa52;L0Nfa52;Z000;Z010;Z0299;Z0499;Z060;", "P0010aa22aa21bb11;P0010ba32;P0010aa22ea12;P1010fa11;");
    measured(o, 0, 4, 40, 99);
    o.decide(0);
    o.decide(3);
    measured(o, 0, 4, 40, 99);
    measured(o, 1, 4, 80, 99);
    measured(o, 2, 4, 60, 99);
    measured(o, 3, 4, 10, 99);
  }

  private static void floorsAtMostTheHeight() {
    PermitOffice o = Desk.office("L0Naa99;");
    for (int floors = 1; floors <= 9; floors++) {
      Desk.execute(o, "P00" + floors + "1ee11;");
    }
    for (int height = 1; height <= 9; height++) {
      Desk.execute(o, "Z03" + height + ";");
      for (int floors = 1; floors <= 9; floors++) {
        measured(o, floors - 1, 5, floors, height);
        found(floors > height, o, floors - 1, 5);
      }
    }
  }

  private static void floorAreaAtMostTheRule() {
    PermitOffice o = Desk.office("L0Naa99;P0010aa99;P0010aa99ja11;P0020aa95;", "P0010aa98;P0010aa11;P0090aa99;");
    int[] tenths = {10, 11, 12, 9, 1, 90};
    for (int rule = 1; rule <= 99; rule++) {
      Desk.execute(o, "Z04" + rule + ";");
      for (int permit = 0; permit < 6; permit++) {
        measured(o, permit, 6, tenths[permit], rule);
        found(tenths[permit] > rule, o, permit, 6);
      }
    }
  }

  private static void floorAreaOfOthersThatStand() {
    PermitOffice[] offices = Desk.officesByStatus();
    for (int status = 0; status < 7; status++) {
      PermitOffice o = offices[status];
      Desk.execute(o, "L0Nja99;P0010aa99;P1010ja99;");
      measured(o, 1, 6, Desk.stands(status) ? 11 : 10, 10);
      found(Desk.stands(status), o, 1, 6);
      measured(o, 2, 6, 10, 10);
    }
  }

  private static void floorAreaOfThePermitItselfOnce() {
    PermitOffice o = Desk.office("L0Naa99;Z000;Z010;Z0299;Z0499;Z060;P0020aa95;P0010af11;");
    measured(o, 0, 6, 12, 99);
    o.decide(0);
    measured(o, 0, 6, 12, 99);
    o.decide(1);
    measured(o, 0, 6, 12, 99);
    measured(o, 1, 6, 12, 99);
    o.revoke(0);
    measured(o, 0, 6, 12, 99);
    measured(o, 1, 6, 1, 99);
  }

  private static void useInTheSet() {
    PermitOffice o = Desk.office("L0Naa99;");
    for (int use = 0; use < 6; use++) {
      Desk.execute(o, "P0" + use + "11ee11;");
    }
    for (int set = 0; set < 64; set++) {
      Desk.execute(o, "Z05" + set + ";");
      for (int use = 0; use < 6; use++) {
        measured(o, use, 7, use, set);
        found((set >> use) % 2 == 0, o, use, 7);
      }
    }
  }

  private static void parkingAtLeastTheRule() {
    String[] buildings = {"1?aa11", "1?aa33", "1?aa52", "2?aa51", "1?aa52af91", "2?aa52", "9?aa99"};
    int[] floorAreas = {1, 9, 10, 10, 19, 20, 729};
    for (int i = 0; i < buildings.length; i++) {
      PermitOffice o = Desk.office("L0Naa99;");
      for (int places = 0; places <= 9; places++) {
        Desk.execute(o, "P00" + buildings[i].replace('?', (char) ('0' + places)) + ";");
      }
      int floorArea = floorAreas[i];
      Check.due(floorArea, () -> o.permit(9, 6));
      for (int rule = 0; rule <= 9; rule++) {
        Desk.execute(o, "Z06" + rule + ";");
        int wanted = (int) Math.ceil(rule * floorArea / 10.0);
        for (int places = 0; places <= 9; places++) {
          measured(o, places, 8, places, wanted);
          found(places < wanted, o, places, 8);
        }
      }
    }
  }

  private static void rulesAreThoseOfTheZoneOfTheLot() {
    PermitOffice o = Desk.office("L0Naa99;L3Nja99;P0011ee11;P1011ne11;", "Z305;Z316;Z327;Z338;Z349;Z3510;Z369;");
    int[] first = {2, 1, 50, 3, 10, 63, 1};
    int[] other = {5, 6, 7, 8, 9, 10, 1};
    for (int i = 0; i < 7; i++) {
      int kind = i + 2;
      Check.due(first[i], () -> o.finding(0, kind, 1));
      Check.due(other[i], () -> o.finding(1, kind, 1));
    }
    o.rezone(0, 3);
    o.rezone(1, 2);
    for (int i = 0; i < 7; i++) {
      int kind = i + 2;
      Check.due(other[i], () -> o.finding(0, kind, 1));
      Check.due(first[i], () -> o.finding(1, kind, 1));
    }
  }

  private static void findingsFromNoneToAll() {
    PermitOffice o = Desk.office("L0Naa99;P0011ee11;P0590ee11ja11;");
    o.decide(0);
    Desk.execute(o, "Z009;Z019;Z020;Z031;Z041;Z050;Z069;");
    Check.due(0b111111111, () -> o.findings(1, false));
    Check.due(0, () -> o.findings(1, true));
    Desk.execute(o, "V028,9;V038,9;V041,9;V057,9;V061,9;V0816,9;");
    Check.due(0, () -> o.findings(1, true));
    o.undo();
    Desk.execute(o, "V029,9;V039,9;V042,9;V058,9;V062,9;V071,9;V0817,9;");
    Check.due(0b111111111, () -> o.findings(1, false));
    Check.due(0b111111100, () -> o.findings(1, true));
    Desk.execute(o, "Z000;Z010;Z0299;Z039;Z0499;Z0563;Z060;");
    Check.due(0b11, () -> o.findings(1, false));
    Check.due(0, () -> o.findings(1, true));
    Check.due(0, () -> o.findings(0, false));
  }

  private static void permitsOfFindings() {
    PermitOffice empty = Desk.office("L0Naa99;");
    Desk.refused(Check.INDEX, empty, () -> empty.findings(0, false));
    PermitOffice o = Desk.office("L0Naa99;P0011ee11;P0011ee11;");
    Check.due(0, () -> o.findings(1, true));
    Desk.refused(Check.INDEX, o, () -> o.findings(-1, false));
    Desk.refused(Check.INDEX, o, () -> o.findings(2, true));
    for (int wild : Desk.WILD) {
      Desk.refused(Check.INDEX, o, () -> o.findings(wild, false));
    }
  }

  private static void kindsAndWhatsOfFindings() {
    PermitOffice o = Desk.office("L0Naa99;P0011ee11;");
    for (int kind : new int[] {-1, 9}) {
      Desk.refused(Check.ILLEGAL, o, () -> o.finding(0, kind, 0));
      Desk.refused(Check.INDEX, o, () -> o.finding(-1, kind, 0));
      Desk.refused(Check.INDEX, o, () -> o.finding(1, kind, 0));
    }
    for (int what : new int[] {-1, 3}) {
      Desk.refused(Check.ILLEGAL, o, () -> o.finding(0, 8, what));
      Desk.refused(Check.INDEX, o, () -> o.finding(-1, 8, what));
      Desk.refused(Check.INDEX, o, () -> o.finding(1, 8, what));
    }
    for (int wild : Desk.WILD) {
      Desk.refused(Check.ILLEGAL, o, () -> o.finding(0, wild, 0));
      Desk.refused(Check.ILLEGAL, o, () -> o.finding(0, 8, wild));
      Desk.refused(Check.INDEX, o, () -> o.finding(wild, 0, 0));
    }
    Check.due(0, () -> o.finding(0, 0, 0));
    Check.due(-1, () -> o.finding(0, 0, 2));
    Check.due(1, () -> o.finding(0, 8, 0));
    Check.due(-1, () -> o.finding(0, 8, 2));
  }

  private static PermitOffice threeIssued() {
    PermitOffice o = Desk.office("L0Naa99;P0011cc11;P0121ee11;P0231gg11;");
    for (int permit = 0; permit < 3; permit++) {
      o.decide(permit);
    }
    return o;
  }

  private static void worstHasTheMost() {
    PermitOffice o = threeIssued();
    Check.thrown(Check.NO_SUCH, o::worst);
    Desk.execute(o, "Z032;");
    Check.due(2, o::worst);
    Desk.execute(o, "Z0561;Z031;");
    Check.due(1, o::worst);
    Desk.execute(o, "V059,0;");
    Check.due(1, o::worst);
    Desk.execute(o, "V079,0;");
    Check.thrown(Check.NO_SUCH, o::worst);
    o.pass(1);
    Check.due(1, o::worst);
  }

  private static void worstOfSeveralIsTheLowest() {
    PermitOffice o = threeIssued();
    Desk.execute(o, "Z050;");
    Check.due(0, o::worst);
    Desk.execute(o, "Z051;");
    Check.due(1, o::worst);
    Desk.execute(o, "Z053;");
    Check.due(2, o::worst);
    Desk.execute(o, "Z057;");
    Check.thrown(Check.NO_SUCH, o::worst);
  }

  private static void worstStands() {
    PermitOffice[] offices = Desk.officesByStatus();
    for (int status = 0; status < 7; status++) {
      PermitOffice o = offices[status];
      Desk.execute(o, "Z050;");
      if (Desk.stands(status)) {
        Check.due(0, o::worst);
      } else {
        Desk.refused(Check.NO_SUCH, o, o::worst);
      }
    }
    PermitOffice empty = new PermitOffice();
    Desk.refused(Check.NO_SUCH, empty, empty::worst);
  }
}
