/** Promises 10 to 13: permit, findings, finding, worst. */
public final class FindingTest {
  public static void main(String[] args) {
    promise10Permit();
    promise10PermitOverItsLife();
    promise11Findings();
    promise11Relieved();
    promise12Outside();
    promise12Overlap();
    promise12FrontAndSide();
    promise12Coverage();
    promise12Height();
    promise12FloorArea();
    promise12Use();
    promise12Parking();
    promise12UsedVariance();
    promise12Wrong();
    promise13Worst();
    Check.end();
  }

  private static void permitIs(PermitOffice o, int permit, int... want) {
    for (int i = 0; i < want.length; i++) {
      int what = i;
      Check.due(want[i], () -> o.permit(permit, what));
    }
  }

  private static void promise10Permit() {
    PermitOffice o = Desk.office("L0Naa99;L0Nja99;", "P1539jb22;P0040tn11aa99tn11;C13z;C11a;C12a;");
    permitIs(o, 0, 0, 1, 5, 3, 9, 4, 12, 0, 0, -1, 0, 0, 0);
    permitIs(o, 1, 0, 0, 0, 4, 0, 82, 328, 0, 0, -1, 0, 3, 3);
    o.fulfil(1, 'a');
    permitIs(o, 1, 0, 0, 0, 4, 0, 82, 328, 0, 0, -1, 0, 1, 3);
    Desk.refused(Check.INDEX, o, () -> o.permit(-1, 0));
    Desk.refused(Check.INDEX, o, () -> o.permit(2, 13));
    Desk.refused(Check.ILLEGAL, o, () -> o.permit(0, 13));
    Desk.refused(Check.ILLEGAL, o, () -> o.permit(0, -1));
    for (int wild : Desk.WILD) {
      Desk.refused(Check.INDEX, o, () -> o.permit(wild, wild));
      Desk.refused(Check.ILLEGAL, o, () -> o.permit(0, wild));
    }
  }

  private static void lifeIs(PermitOffice o, int status, int phase, int failures, int limit, int open) {
    Check.due(status, () -> o.permit(0, 0));
    Check.due(phase, () -> o.permit(0, 7));
    Check.due(failures, () -> o.permit(0, 8));
    Check.due(limit, () -> o.permit(0, 9));
    Check.due(open, () -> o.permit(0, 11));
  }

  private static void promise10PermitOverItsLife() {
    PermitOffice o = Desk.office("L0Naa99;P0011ee11;C01a;C03b;Z005;V021,9;");
    lifeIs(o, 0, 0, 0, -1, 2);
    o.pass(5);
    o.decide(0);
    lifeIs(o, 2, 0, 0, 35, 2);
    Check.due(1, () -> o.permit(0, 10));
    o.inspect(0);
    lifeIs(o, 2, 1, 0, 35, 2);
    o.inspect(0);
    lifeIs(o, 2, 1, 1, 35, 2);
    o.inspect(0);
    o.inspect(0);
    lifeIs(o, 6, 1, 3, -1, 2);
    o.save();
    o.revoke(0);
    lifeIs(o, 5, 1, 3, -1, 2);
    o.restore();
    o.pass(1);
    o.reinstate(0);
    lifeIs(o, 2, 1, 0, 36, 2);
    o.fulfil(0, 'a');
    o.inspect(0);
    o.inspect(0);
    lifeIs(o, 2, 3, 0, 36, 1);
    o.inspect(0);
    lifeIs(o, 2, 3, 1, 36, 1);
    o.save();
    o.pass(31);
    lifeIs(o, 4, 3, 1, -1, 1);
    o.restore();
    o.fulfil(0, 'b');
    o.inspect(0);
    lifeIs(o, 3, 4, 0, -1, 0);
    Check.due(1, () -> o.permit(0, 10));
    PermitOffice refused = Desk.office("L0Naa99;P0011aa11;");
    refused.decide(0);
    lifeIs(refused, 1, 0, 0, -1, 0);
  }

  private static void promise11Findings() {
    PermitOffice o = Desk.office("L0Naa55;Z0530;Z009;Z019;Z020;Z031;Z041;Z069;", "P0090cc33;P0090ff11;");
    Check.due(0b111111100, () -> o.findings(0, false));
    Check.due(0b111101101, () -> o.findings(1, false));
    Check.due(0, () -> o.findings(0, true));
    Desk.execute(o, "Z000;Z010;Z0299;Z039;Z0499;Z0531;Z060;");
    Check.due(0, () -> o.findings(0, false));
    Check.due(1, () -> o.findings(1, false));
    o.decide(0);
    Desk.execute(o, "P0010dd12;");
    Check.due(0b10, () -> o.findings(2, false));
    Check.due(0, () -> o.findings(0, false));
    Desk.refused(Check.INDEX, o, () -> o.findings(-1, false));
    Desk.refused(Check.INDEX, o, () -> o.findings(3, true));
    for (int wild : Desk.WILD) {
      Desk.refused(Check.INDEX, o, () -> o.findings(wild, true));
    }
  }

  private static void promise11Relieved() {
    PermitOffice o = Desk.office("L0Naa55;L0Nja55;P0590cc22;Z0531;", "V071,5;V056,4;V055,9;V1699,9;V0880,0;V0699,9;");
    Check.due(0b111100100 & ~0b100, () -> o.findings(0, false));
    Check.due(0b111100000, () -> o.findings(0, true));
    o.pass(4);
    Check.due(0b011100000, () -> o.findings(0, true));
    o.pass(1);
    Check.due(0b011000000, () -> o.findings(0, true));
    o.pass(1);
    Check.due(0b001000000, () -> o.findings(0, true));
    o.pass(3);
    Check.due(0b001000000, () -> o.findings(0, true));
    o.pass(1);
    Check.due(0, () -> o.findings(0, true));
  }

  private static void measured(PermitOffice o, int permit, int kind, int measure, int limit) {
    Check.due(measure, () -> o.finding(permit, kind, 0));
    Check.due(limit, () -> o.finding(permit, kind, 1));
  }

  private static void promise12Outside() {
    PermitOffice o = Desk.office("L0Naa33cc33;L0Nfa55;", "P0010aa55aa55;P1010fa55;P1010ea11ea22;P0010aa11;");
    measured(o, 0, 0, 25 - 17, 0);
    measured(o, 1, 0, 0, 0);
    measured(o, 2, 0, 2, 0);
    measured(o, 3, 0, 0, 0);
  }

  /** Of the permits of one lot the issued, finished and suspended ones count, the others don't. */
  private static void promise12Overlap() {
    PermitOffice o = Desk.office("L0Naa99;L0Nja99;Z000;Z010;Z0299;Z0499;Z060;", "P0010bb22;C00a;P0010cc22;P1010bb22;");
    o.decide(0);
    measured(o, 1, 1, 1, 0);
    measured(o, 2, 1, 0, 0);
    measured(o, 0, 1, 0, 0);
    Desk.execute(o, "P0010bb22bb33;");
    measured(o, 3, 1, 4, 0);
    Desk.execute(o, "P0010dd11;");
    o.decide(4);
    measured(o, 3, 1, 5, 0);
    measured(o, 4, 1, 0, 0);
    o.save();
    o.inspect(0);
    o.inspect(0);
    o.inspect(0);
    Check.due(6, () -> o.permit(0, 0));
    measured(o, 3, 1, 5, 0);
    o.revoke(0);
    measured(o, 3, 1, 1, 0);
    o.restore();
    o.fulfil(0, 'a');
    for (int i = 0; i < 4; i++) {
      o.inspect(0);
    }
    Check.due(3, () -> o.permit(0, 0));
    measured(o, 3, 1, 5, 0);
    o.pass(31);
    Check.due(4, () -> o.permit(4, 0));
    measured(o, 3, 1, 4, 0);
    o.decide(3);
    Check.due(1, () -> o.permit(3, 0));
    Desk.execute(o, "P0010cd11;");
    measured(o, 5, 1, 0, 0);
    PermitOffice corners = Desk.office("L0Naa99ja99;L0Nsa25sf29;", "Z000;Z010;Z060;P0010aa11ra11ai11;");
    corners.decide(0);
    Desk.execute(corners, "P0010aa19;P0010ra19;P0010aa99ja99;");
    measured(corners, 1, 1, 2, 0);
    measured(corners, 2, 1, 1, 0);
    measured(corners, 3, 1, 3, 0);
    measured(corners, 1, 4, 7, 50);
  }

  private static void promise12FrontAndSide() {
    PermitOffice o = Desk.office("L0Nba54dc35;L1Eka11;", "P0010cb11;P0010cb22;P0010ee11;P0010bd11;");
    measured(o, 0, 2, 1, 2);
    measured(o, 0, 3, 1, 1);
    measured(o, 1, 2, 1, 2);
    measured(o, 2, 2, 4, 2);
    measured(o, 2, 3, 1, 1);
    measured(o, 3, 2, 3, 2);
    measured(o, 3, 3, 0, 1);
    int[] front = {3, 5, 4, 4};
    int[] side = {4, 3, 3, 3};
    for (int i = 0; i < 4; i++) {
      PermitOffice turned = Desk.office("L3" + "NESW".charAt(i) + "aa99ja49;Z304;Z315;P0010ed42;");
      measured(turned, 0, 2, front[i], 4);
      measured(turned, 0, 3, side[i], 5);
    }
    PermitOffice outside = Desk.office("L0Naa99;P0010ee11jj11;");
    measured(outside, 0, 2, 0, 2);
    measured(outside, 0, 3, 0, 1);
    PermitOffice rules = Desk.office("L2Saa99;P0010ee11;Z207;Z214;");
    measured(rules, 0, 2, 4, 7);
    measured(rules, 0, 3, 4, 4);
    Check.due(0b100, () -> rules.findings(0, false) & 0b1111);
    Desk.execute(rules, "Z204;Z215;");
    Check.due(0b1000, () -> rules.findings(0, false) & 0b1111);
  }

  private static void promise12Coverage() {
    PermitOffice o = Desk.office("L0Naa33;L0Nda33;Z000;Z010;Z0499;Z060;Z0234;", "P0010aa13;P0010ca13;P0010ba22aa22;P1010aa33;");
    measured(o, 0, 4, 34, 34);
    measured(o, 1, 4, 34, 34);
    measured(o, 2, 4, 67, 34);
    measured(o, 3, 4, 0, 34);
    Check.due(0, () -> o.findings(0, false));
    o.decide(0);
    measured(o, 0, 4, 34, 34);
    measured(o, 1, 4, 67, 34);
    measured(o, 2, 4, 78, 34);
    Check.due(0b10000, () -> o.findings(1, false));
    Desk.execute(o, "Z0266;");
    Check.due(0b10000, () -> o.findings(1, false));
    Desk.execute(o, "Z0267;");
    Check.due(0, () -> o.findings(1, false));
    measured(o, 3, 4, 0, 67);
    o.revoke(0);
    measured(o, 0, 4, 34, 67);
    measured(o, 1, 4, 34, 67);
    PermitOffice whole = Desk.office("L0Naa99;P0010aa99ba99;P0010aa11;");
    measured(whole, 0, 4, 100, 50);
    measured(whole, 1, 4, 2, 50);
  }

  private static void promise12Height() {
    PermitOffice o = Desk.office("L2Naa99;P0030ee11;P0040ee11;");
    measured(o, 0, 5, 3, 3);
    measured(o, 1, 5, 4, 3);
    Check.due(0, () -> o.findings(0, false) & 32);
    Check.due(32, () -> o.findings(1, false) & 32);
    Desk.execute(o, "Z232;");
    measured(o, 0, 5, 3, 2);
    Check.due(32, () -> o.findings(0, false) & 32);
  }

  private static void promise12FloorArea() {
    PermitOffice o = Desk.office("L0Naa33;L0Nda33;Z000;Z010;Z0299;Z0447;Z060;", "P0020aa22;P0030ca13;P0010ac11;P1010da33;");
    measured(o, 0, 6, 9, 47);
    measured(o, 1, 6, 10, 47);
    measured(o, 2, 6, 2, 47);
    o.decide(1);
    o.decide(3);
    measured(o, 0, 6, 19, 47);
    measured(o, 1, 6, 10, 47);
    measured(o, 3, 6, 10, 47);
    Desk.execute(o, "Z0419;");
    Check.due(0, () -> o.findings(0, false));
    Desk.execute(o, "Z0418;");
    Check.due(64, () -> o.findings(0, false));
    o.revoke(1);
    measured(o, 1, 6, 10, 18);
    measured(o, 0, 6, 9, 18);
    PermitOffice outside = Desk.office("L0Naa11;P0090ba99;");
    measured(outside, 0, 6, 7290, 10);
  }

  private static void promise12Use() {
    PermitOffice o = Desk.office("L1Naa99;P0011ee11;P0511ee11;P0311ee11;");
    measured(o, 0, 7, 0, 63);
    measured(o, 1, 7, 5, 63);
    Check.due(0, () -> o.findings(0, false));
    Desk.execute(o, "Z158;");
    measured(o, 2, 7, 3, 8);
    Check.due(128, () -> o.findings(0, false));
    Check.due(128, () -> o.findings(1, false));
    Check.due(0, () -> o.findings(2, false));
    Desk.execute(o, "Z150;");
    Check.due(128, () -> o.findings(2, false));
    measured(o, 2, 7, 3, 0);
  }

  private static void promise12Parking() {
    PermitOffice o = Desk.office("L1Naa99;P0012ee52;P0011ee52;P0012ef61fg51;P0039aa99;");
    measured(o, 0, 8, 2, 1);
    measured(o, 1, 8, 1, 1);
    measured(o, 2, 8, 2, 2);
    measured(o, 3, 8, 9, 25);
    Check.due(256, () -> o.findings(3, false) & 256);
    Desk.execute(o, "Z162;");
    measured(o, 0, 8, 2, 2);
    measured(o, 1, 8, 1, 2);
    measured(o, 2, 8, 2, 3);
    Check.due(0, () -> o.findings(0, false) & 256);
    Check.due(256, () -> o.findings(1, false) & 256);
    Desk.execute(o, "Z160;");
    measured(o, 3, 8, 9, 0);
    Desk.execute(o, "Z169;");
    measured(o, 0, 8, 2, 9);
    measured(o, 3, 8, 9, 219);
  }

  private static void used(PermitOffice o, int kind, int variance) {
    Check.due(variance, () -> o.finding(0, kind, 2));
  }

  private static void promise12UsedVariance() {
    PermitOffice o = Desk.office("L0Naa99;L0Nja99;P0591bb22;Z0531;", "V021,9;V022,9;V021,3;V071,9;V152,9;V059,5;V056,6;");
    used(o, 0, -1);
    used(o, 1, -1);
    used(o, 2, 0);
    used(o, 3, -1);
    used(o, 4, -1);
    used(o, 5, 6);
    used(o, 6, -1);
    used(o, 7, 3);
    used(o, 8, -1);
    Desk.execute(o, "V057,9;V056,9;V055,9;V072,9;V071,9;");
    used(o, 5, 6);
    used(o, 7, 3);
    o.pass(6);
    used(o, 5, 6);
    o.pass(1);
    used(o, 5, 8);
    used(o, 2, 0);
    o.pass(3);
    used(o, 5, -1);
    used(o, 7, -1);
    amountsOfUseVariances();
    amountsThatSuffice();
  }

  private static void amountsOfUseVariances() {
    PermitOffice o = Desk.office("L0Naa99;P0511ee11;Z0531;V079,5;V072,5;V072,9;V071,1;");
    used(o, 7, 3);
    o.pass(2);
    used(o, 7, 1);
    o.pass(4);
    used(o, 7, 2);
    Desk.execute(o, "Z0563;");
    used(o, 7, -1);
  }

  /** For each kind the first amount that helps, and the one before it, which does not. */
  private static void amountsThatSuffice() {
    String rules = "Z009;Z018;Z022;Z031;Z041;Z069;";
    int[] needed = {0, 0, 6, 5, 10, 4, 5, 0, 40};
    for (int kind = 2; kind < 9; kind++) {
      if (kind != 7) {
        int k = kind;
        String shape = "L0Naa99;P0051dd33;";
        PermitOffice o = Desk.office(shape, rules, "V0" + kind + (needed[kind] - 1) + ",9;");
        Check.due(needed[kind], () -> o.needed(0, k));
        used(o, kind, -1);
        Desk.execute(o, "V0" + kind + "99,9;");
        used(o, kind, 1);
        Desk.execute(o, "V0" + kind + needed[kind] + ",9;");
        used(o, kind, 2);
      }
    }
  }

  private static void promise12Wrong() {
    PermitOffice o = Desk.office("L0Naa99;P0011ee11;");
    Desk.refused(Check.INDEX, o, () -> o.finding(-1, 0, 0));
    Desk.refused(Check.INDEX, o, () -> o.finding(1, 9, 3));
    Desk.refused(Check.ILLEGAL, o, () -> o.finding(0, -1, 0));
    Desk.refused(Check.ILLEGAL, o, () -> o.finding(0, 9, 0));
    Desk.refused(Check.ILLEGAL, o, () -> o.finding(0, 0, -1));
    Desk.refused(Check.ILLEGAL, o, () -> o.finding(0, 8, 3));
    for (int wild : Desk.WILD) {
      Desk.refused(Check.INDEX, o, () -> o.finding(wild, wild, wild));
      Desk.refused(Check.ILLEGAL, o, () -> o.finding(0, wild, 0));
      Desk.refused(Check.ILLEGAL, o, () -> o.finding(0, 0, wild));
    }
  }

  private static void promise13Worst() {
    PermitOffice o = Desk.office("L0Naa99;L1Nja99;P1011ne11;P0032ee11;P0011cc11;P0091aa11;", "Z000;C10b;");
    Check.thrown(Check.NO_SUCH, o::worst);
    for (int i = 0; i < 4; i++) {
      o.decide(i);
    }
    Check.due(1, () -> o.permit(3, 0));
    Check.thrown(Check.NO_SUCH, o::worst);
    Desk.execute(o, "Z050;");
    Check.due(1, o::worst);
    Desk.execute(o, "Z150;");
    Check.due(0, o::worst);
    Desk.execute(o, "Z031;");
    Check.due(1, o::worst);
    for (int i = 0; i < 3; i++) {
      o.inspect(1);
    }
    Check.due(6, () -> o.permit(1, 0));
    Check.due(1, o::worst);
    Desk.execute(o, "V051,9;");
    Check.due(1, o::worst);
    Desk.execute(o, "V059,99;");
    Check.due(0, o::worst);
    Desk.execute(o, "V171,9;");
    Check.due(1, o::worst);
    Desk.execute(o, "V071,9;");
    Check.thrown(Check.NO_SUCH, o::worst);
    o.pass(10);
    Check.due(0, o::worst);
    Desk.execute(o, "Z038;Z160;Z060;V171,0;V074,0;");
    Check.thrown(Check.NO_SUCH, o::worst);
    o.pass(21);
    Check.due(1, o::worst);
    Desk.refused(Check.NO_SUCH, Desk.office("L0Naa99;"), Desk.office("L0Naa99;")::worst);
  }
}
