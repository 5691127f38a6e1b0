/** Promises 5 to 9: rule, lot, rezone, cell, largest. */
public final class LotTest {
  public static void main(String[] args) {
    promise05Rule();
    promise06Lot();
    promise07Rezone();
    promise08Cell();
    promise09Largest();
    promise09LargestAmongBuildings();
    Check.end();
  }

  private static void promise05Rule() {
    PermitOffice o = Desk.office("Z009;Z118;Z2277;Z336;Z0455;Z154;Z263;Z300;");
    int[] want = {9, 1, 50, 3, 55, 63, 1, 2, 8, 50, 3, 10, 4, 1, 2, 1, 77, 3, 10, 63, 3, 0, 1, 50, 6, 10, 63, 1};
    for (int i = 0; i < 28; i++) {
      int rule = i;
      Check.due(want[i], () -> o.rule(rule / 7, rule % 7));
    }
    Desk.refused(Check.INDEX, o, () -> o.rule(-1, 0));
    Desk.refused(Check.INDEX, o, () -> o.rule(4, 7));
    Desk.refused(Check.ILLEGAL, o, () -> o.rule(0, -1));
    Desk.refused(Check.ILLEGAL, o, () -> o.rule(3, 7));
    for (int wild : Desk.WILD) {
      Desk.refused(Check.INDEX, o, () -> o.rule(wild, wild));
      Desk.refused(Check.ILLEGAL, o, () -> o.rule(1, wild));
    }
  }

  private static void lotIs(PermitOffice o, int lot, int... want) {
    for (int i = 0; i < want.length; i++) {
      int what = i;
      Check.due(want[i], () -> o.lot(lot, what));
    }
  }

  private static void promise06Lot() {
    PermitOffice o = Desk.office("L2Eaa99bb33cc99;L3Wtn11;L1Sma33nd33qa11;", "P0020bb33;P0020dd22je11;P1020cc11;");
    lotIs(o, 0, 2, 1, 81 + 81 - 49, 0, 0, 44);
    lotIs(o, 1, 3, 3, 1, 0, 0, 4);
    lotIs(o, 2, 1, 2, 19, 0, 0, 24);
    Desk.execute(o, "Z200;Z210;Z260;");
    o.decide(0);
    lotIs(o, 0, 2, 1, 113, 9, 18, 44);
    o.decide(1);
    Check.due(1, () -> o.permit(1, 0));
    Desk.execute(o, "P0020af11;P0020bb12aj11;");
    o.decide(3);
    o.decide(4);
    Check.due(1, () -> o.permit(4, 0));
    lotIs(o, 0, 2, 1, 113, 10, 20, 44);
    o.revoke(0);
    lotIs(o, 0, 2, 1, 113, 1, 2, 44);
    Desk.refused(Check.INDEX, o, () -> o.lot(-1, 0));
    Desk.refused(Check.INDEX, o, () -> o.lot(3, 6));
    Desk.refused(Check.ILLEGAL, o, () -> o.lot(2, 6));
    Desk.refused(Check.ILLEGAL, o, () -> o.lot(0, -1));
    for (int wild : Desk.WILD) {
      Desk.refused(Check.INDEX, o, () -> o.lot(wild, wild));
      Desk.refused(Check.ILLEGAL, o, () -> o.lot(0, wild));
    }
    lotThatIsWiderThanARectangle();
  }

  /** The sides on the town's border touch no cell of the lot either. */
  private static void lotThatIsWiderThanARectangle() {
    PermitOffice o = Desk.office("L0Naa95ja95sa25;L0Nan91jn91sn21;");
    lotIs(o, 0, 0, 0, 100, 0, 0, 50);
    lotIs(o, 1, 0, 0, 20, 0, 0, 42);
    Check.due(19, () -> o.cell(0, 2, 3));
    Check.due(19, () -> o.cell(19, 13, 5));
    Check.due(120, () -> o.count(5));
  }

  private static void promise07Rezone() {
    PermitOffice o = Desk.office("L1Naa99;L2Nja11;P0030ee11;Z002;Z305;");
    Check.due(1, () -> o.rezone(0, 3));
    Check.due(3, () -> o.lot(0, 0));
    Check.due(2, () -> o.lot(1, 0));
    Check.due(5, () -> o.finding(0, 2, 1));
    Check.due(3, () -> o.rezone(0, 3));
    Check.due(3, () -> o.rezone(0, 0));
    Check.due(2, () -> o.finding(0, 2, 1));
    Check.due(4, () -> o.count(6));
    Desk.refused(Check.INDEX, o, () -> o.rezone(-1, 0));
    Desk.refused(Check.INDEX, o, () -> o.rezone(2, 4));
    Desk.refused(Check.ILLEGAL, o, () -> o.rezone(0, -1));
    Desk.refused(Check.ILLEGAL, o, () -> o.rezone(1, 4));
    for (int wild : Desk.WILD) {
      Desk.refused(Check.INDEX, o, () -> o.rezone(wild, wild));
      Desk.refused(Check.ILLEGAL, o, () -> o.rezone(0, wild));
    }
  }

  private static void cellIs(PermitOffice o, int column, int row, int... want) {
    for (int i = 0; i < want.length; i++) {
      int what = i;
      Check.due(want[i], () -> o.cell(column, row, what));
    }
  }

  private static void promise08Cell() {
    PermitOffice o = Desk.office("L0Naa54cc35;L0Sfa33;P0010bb11;P0010bb11ta11;P0010ta11cg11;");
    cellIs(o, 0, 0, 0, -1, 0, 4, 3, 0);
    cellIs(o, 2, 2, 0, -1, 2, 2, 4, 2);
    cellIs(o, 4, 6, 0, -1, 6, 0, 0, 2);
    cellIs(o, 1, 3, 0, -1, 3, 3, 0, 1);
    cellIs(o, 1, 4, -1, -1, 0, 0, 0, 0);
    cellIs(o, 5, 0, 1, -1, 0, 2, 2, 0);
    cellIs(o, 19, 13, -1, -1, 0, 0, 0, 0);
    Desk.execute(o, "Z000;Z010;Z0299;Z0499;Z060;V0399,9;");
    o.decide(2);
    cellIs(o, 19, 0, -1, -1);
    o.decide(0);
    cellIs(o, 1, 1, 0, 0, 1, 3, 2, 1);
    Desk.execute(o, "P1010ga11;P1010ga11bb11;");
    o.decide(3);
    cellIs(o, 6, 0, 1, 3);
    o.revoke(0);
    cellIs(o, 1, 1, 0, -1);
    standingBuildingsOutsideTheirLot();
    Desk.refused(Check.INDEX, o, () -> o.cell(-1, 0, 0));
    Desk.refused(Check.INDEX, o, () -> o.cell(0, -1, 0));
    Desk.refused(Check.INDEX, o, () -> o.cell(20, 0, 6));
    Desk.refused(Check.INDEX, o, () -> o.cell(0, 14, -1));
    Desk.refused(Check.ILLEGAL, o, () -> o.cell(19, 13, 6));
    Desk.refused(Check.ILLEGAL, o, () -> o.cell(0, 0, -1));
    for (int wild : Desk.WILD) {
      Desk.refused(Check.INDEX, o, () -> o.cell(wild, 0, wild));
      Desk.refused(Check.INDEX, o, () -> o.cell(0, wild, wild));
      Desk.refused(Check.ILLEGAL, o, () -> o.cell(0, 0, wild));
    }
  }

  /** No permit with a cell outside of its lot is ever issued, and no two for one lot that overlap. */
  private static void standingBuildingsOutsideTheirLot() {
    PermitOffice o = Desk.office("L0Naa99;P0010ee11;P0010ee11;P0010ee11ja11;Z060;");
    o.decide(1);
    o.decide(0);
    o.decide(2);
    Check.due(1, () -> o.permit(0, 0));
    Check.due(1, () -> o.reason(0));
    Check.due(0, () -> o.reason(2));
    cellIs(o, 4, 4, 0, 1);
    cellIs(o, 9, 0, -1, -1);
  }

  private static void promise09Largest() {
    PermitOffice o = Desk.office("L0Naa99;L1Eja95ja59;L2Saj11;", "L3Wsa25;");
    Check.due(7 * 6, () -> o.largest(0));
    Check.due(6 * 3, () -> largestWith(o, 1, "Z102;Z111;"));
    Check.due(45, () -> largestWith(o, 1, "Z100;Z110;"));
    Check.due(8 * 5, () -> largestWith(o, 1, "Z101;Z110;"));
    Check.due(0, () -> o.largest(2));
    Check.due(1, () -> largestWith(o, 2, "Z200;Z210;"));
    Check.due(0, () -> o.largest(3));
    Check.due(5, () -> largestWith(o, 3, "Z301;Z310;"));
    PermitOffice wide = Desk.office("L0Naa99ja99sa29;Z000;Z010;");
    Check.due(180, () -> wide.largest(0));
    Check.due(20 * 9 - 20, () -> largestWith(wide, 0, "Z001;"));
    Check.due(18 * 7, () -> largestWith(wide, 0, "Z011;"));
    Check.due(0, () -> largestWith(wide, 0, "Z009;"));
    Desk.refused(Check.INDEX, o, () -> o.largest(-1));
    Desk.refused(Check.INDEX, o, () -> o.largest(4));
    for (int wild : Desk.WILD) {
      Desk.refused(Check.INDEX, o, () -> o.largest(wild));
    }
  }

  private static int largestWith(PermitOffice o, int lot, String rules) {
    Desk.execute(o, rules);
    return o.largest(lot);
  }

  private static void promise09LargestAmongBuildings() {
    PermitOffice o = Desk.office("L0Naa95;L0Naf94;Z000;Z010;Z0299;Z0499;Z060;", "P0010ca12;P0010gd11;V0299,99;V0399,99;");
    Check.due(45, () -> o.largest(0));
    Desk.execute(o, "P0010ba11;");
    o.save();
    o.decide(2);
    Check.due(36, () -> o.largest(0));
    o.restore();
    o.decide(0);
    Check.due(6 * 5, () -> o.largest(0));
    o.decide(1);
    Check.due(6 * 3, () -> o.largest(0));
    Check.due(36, () -> o.largest(1));
    o.revoke(1);
    Check.due(30, () -> o.largest(0));
    Desk.execute(o, "Z011;");
    Check.due(5 * 4, () -> o.largest(0));
  }
}
