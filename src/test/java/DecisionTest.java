/** Promises 14 to 19: decide, reason, revoke, urgent, variance, needed. */
public final class DecisionTest {
  public static void main(String[] args) {
    promise14Decide();
    promise14NamedVariances();
    promise14OnlyApplied();
    promise15Reason();
    promise16Revoke();
    promise17Urgent();
    promise18Variance();
    promise19Needed();
    promise19Limits();
    Check.end();
  }

  private static void promise14Decide() {
    PermitOffice o = Desk.office("L0Naa99;P0011dd33;P0011dd22;P0011ee12;C00a;C13b;");
    o.pass(3);
    Check.due(2, () -> o.decide(0));
    Check.due(2, () -> o.permit(0, 0));
    Check.due(33, () -> o.permit(0, 9));
    Check.due(0, () -> o.permit(0, 10));
    Check.due(29, () -> o.account(0, 0));
    Check.due(0, () -> o.account(0, 1));
    Check.due(1, () -> o.decide(1));
    Check.due(1, () -> o.permit(1, 0));
    Check.due(24, () -> o.account(1, 0));
    Check.due(12, () -> o.account(1, 1));
    Check.due(1, () -> o.reason(1));
    o.revoke(0);
    Check.due(2, () -> o.decide(2));
    Desk.execute(o, "P0021dd51;P0011aa11;");
    Check.due(1, () -> o.decide(4));
    Check.due(10, () -> o.account(4, 1));
    Desk.refused(Check.INDEX, o, () -> o.decide(-1));
    Desk.refused(Check.INDEX, o, () -> o.decide(5));
    for (int wild : Desk.WILD) {
      Desk.refused(Check.INDEX, o, () -> o.decide(wild));
    }
  }

  private static void promise14NamedVariances() {
    PermitOffice o = Desk.office("L0Naa99;P0590bb22;P0041ee11;Z0531;", "V021,9;V059,99;V056,9;V078,9;V089,9;V055,9;V038,3;");
    Check.due(0b110100100, () -> o.findings(0, true));
    Check.due(2, () -> o.decide(0));
    Check.due(0b011101, () -> o.permit(0, 10));
    Check.due(20 + 36 + 40, () -> o.account(0, 0));
    Check.due(2, () -> o.decide(1));
    Check.due(0b100000, () -> o.permit(1, 10));
    Check.due(20 + 4 + 10, () -> o.account(1, 0));
    Desk.execute(o, "V051,9;P0191bb11;P0211ee11;P0541dg11;P0541dd11;");
    Check.due(1, () -> o.decide(2));
    Check.due(0, () -> o.permit(2, 10));
    Check.due(29, () -> o.account(2, 0));
    Check.due(14, () -> o.account(2, 1));
    Check.due(1, () -> o.decide(3));
    Check.due(2, () -> o.decide(4));
    Check.due(0b10001000, () -> o.permit(4, 10));
    o.pass(10);
    Check.due(1, () -> o.decide(5));
    Check.due(7, () -> o.reason(5));
    Check.due(0b011101, () -> o.permit(0, 10));
    o.pass(30);
    Check.due(4, () -> o.permit(0, 0));
    Check.due(0b011101, () -> o.permit(0, 10));
  }

  private static void promise14OnlyApplied() {
    for (PermitOffice o : Desk.officesByStatus()) {
      if (o.permit(0, 0) != 0) {
        Desk.refused(Check.STATE, o, () -> o.decide(0));
      }
    }
  }

  private static void promise15Reason() {
    for (PermitOffice o : Desk.officesByStatus()) {
      if (o.permit(0, 0) != 1) {
        Desk.refused(Check.NO_SUCH, o, () -> o.reason(0));
      }
    }
    PermitOffice o = Desk.office("L0Naa99;Z0531;P0011ee11ja11;P0511aa11;P0511ea11;P0540cc22;");
    Desk.execute(o, "V021,0;V056,0;P0511ee11;P0010ee22;V022,0;P0010ee11;");
    for (int i = 0; i < 7; i++) {
      o.decide(i);
    }
    int[] reasons = {0, 3, 7, 7, 7, 8, 8};
    for (int i = 0; i < 7; i++) {
      int permit = i;
      Check.due(reasons[i], () -> o.reason(permit));
    }
    Desk.execute(o, "Z0563;Z060;Z009;");
    Check.due(7, () -> o.reason(4));
    Check.due(3, () -> o.reason(1));
    o.undo();
    Check.due(8, () -> o.reason(6));
    o.undo();
    Desk.refused(Check.NO_SUCH, o, () -> o.reason(6));
    Desk.refused(Check.INDEX, o, () -> o.reason(-1));
    Desk.refused(Check.INDEX, o, () -> o.reason(7));
    for (int wild : Desk.WILD) {
      Desk.refused(Check.INDEX, o, () -> o.reason(wild));
    }
  }

  private static void promise16Revoke() {
    for (int phases = 0; phases < 4; phases++) {
      PermitOffice o = Desk.office("L0Naa99;P0011ee11;");
      o.decide(0);
      for (int i = 0; i < phases; i++) {
        o.inspect(0);
      }
      int refund = 8 - 2 * phases;
      Check.due(refund, () -> o.revoke(0));
      Check.due(5, () -> o.permit(0, 0));
      Check.due(refund, () -> o.account(0, 1));
      Check.due(21 - refund, () -> o.account(0, 2));
      Desk.refused(Check.STATE, o, () -> o.revoke(0));
    }
    PermitOffice[] offices = Desk.officesByStatus();
    for (int status : new int[] {0, 1, 3, 4, 5}) {
      Desk.refused(Check.STATE, offices[status], () -> offices[status].revoke(0));
    }
    Check.due(8, () -> offices[2].revoke(0));
    Check.due(8, () -> offices[6].revoke(0));
    Check.due(5, () -> offices[6].permit(0, 0));
    Desk.refused(Check.INDEX, offices[0], () -> offices[0].revoke(1));
    for (int wild : Desk.WILD) {
      Desk.refused(Check.INDEX, offices[0], () -> offices[0].revoke(wild));
    }
  }

  private static void urgency(PermitOffice o, int... permits) {
    for (int i = 0; i < permits.length; i++) {
      int index = i;
      Check.due(permits[i], () -> o.urgent(index));
    }
    Desk.refused(Check.NO_SUCH, o, () -> o.urgent(permits.length));
    Desk.refused(Check.NO_SUCH, o, () -> o.urgent(-1));
    for (int wild : Desk.WILD) {
      Desk.refused(Check.NO_SUCH, o, () -> o.urgent(wild));
    }
  }

  private static void promise17Urgent() {
    urgency(new PermitOffice());
    PermitOffice o = Desk.office("L0Naa99;P0011bc11;P0011cc11;P0011dc11;P0011ec11;", "P0011fc11;P0011gc11;P0011hc11;P0011hc11;");
    Desk.execute(o, "C10a;C30a;P0011bd11;C60b;");
    urgency(o, 0, 1, 2, 3, 4, 5, 6, 7, 8);
    o.decide(3);
    o.decide(6);
    o.decide(7);
    urgency(o, 3, 6, 0, 1, 2, 4, 5, 8);
    o.pass(5);
    o.decide(1);
    o.decide(0);
    urgency(o, 3, 6, 0, 1, 2, 4, 5, 8);
    o.extend(3);
    urgency(o, 6, 0, 1, 3, 2, 4, 5, 8);
    suspend(o, 6);
    suspend(o, 1);
    urgency(o, 0, 3, 1, 6, 2, 4, 5, 8);
    o.revoke(6);
    o.pass(20);
    o.reinstate(1);
    urgency(o, 0, 3, 1, 2, 4, 5, 8);
    o.pass(20);
    Check.due(1, () -> o.count(14));
    urgency(o, 3, 1, 2, 4, 5, 8);
  }

  private static void suspend(PermitOffice o, int permit) {
    for (int i = 0; i < 3; i++) {
      o.inspect(permit);
    }
    Check.due(6, () -> o.permit(permit, 0));
  }

  private static void varianceIs(PermitOffice o, int variance, int... want) {
    for (int i = 0; i < want.length; i++) {
      int what = i;
      Check.due(want[i], () -> o.variance(variance, what));
    }
  }

  private static void promise18Variance() {
    PermitOffice o = Desk.office("L0Naa99;L0Nja99;P0041ee11;P0041ec11;P0041cc11;", "V052,5;V182,0;V0399,99;");
    varianceIs(o, 0, 0, 5, 2, 5, 0, 1);
    varianceIs(o, 1, 1, 8, 2, 0, 0, 1);
    varianceIs(o, 2, 0, 3, 99, 99, 0, 1);
    o.decide(0);
    o.decide(1);
    varianceIs(o, 0, 0, 5, 2, 5, 2, 1);
    o.pass(5);
    varianceIs(o, 0, 0, 5, 2, 5, 2, 1);
    varianceIs(o, 1, 1, 8, 2, 0, 0, 0);
    o.pass(1);
    o.decide(2);
    varianceIs(o, 0, 0, 5, 2, 5, 2, 0);
    o.revoke(0);
    varianceIs(o, 0, 0, 5, 2, 5, 2, 0);
    Desk.execute(o, "V121,4;V053,4;P0061ec11;P0051ee11;");
    varianceIs(o, 3, 1, 2, 1, 10, 0, 1);
    o.revoke(1);
    o.decide(3);
    o.decide(4);
    varianceIs(o, 0, 0, 5, 2, 5, 2, 0);
    varianceIs(o, 3, 1, 2, 1, 10, 0, 1);
    varianceIs(o, 4, 0, 5, 3, 10, 2, 1);
    Desk.refused(Check.INDEX, o, () -> o.variance(-1, 0));
    Desk.refused(Check.INDEX, o, () -> o.variance(5, 6));
    Desk.refused(Check.ILLEGAL, o, () -> o.variance(3, 6));
    Desk.refused(Check.ILLEGAL, o, () -> o.variance(0, -1));
    for (int wild : Desk.WILD) {
      Desk.refused(Check.INDEX, o, () -> o.variance(wild, wild));
      Desk.refused(Check.ILLEGAL, o, () -> o.variance(0, wild));
    }
  }

  private static void promise19Needed() {
    PermitOffice o = Desk.office("L0Naa99;P0551dd33;Z009;Z018;Z022;Z031;Z041;Z069;Z0531;");
    int[] want = {6, 5, 10, 4, 5, 1, 40};
    for (int kind = 2; kind < 9; kind++) {
      int k = kind;
      Check.due(want[kind - 2], () -> o.needed(0, k));
    }
    Desk.execute(o, "V021,9;V0299,9;V079,9;");
    Check.due(6, () -> o.needed(0, 2));
    Check.due(1, () -> o.needed(0, 7));
    Desk.execute(o, "Z003;Z013;Z0212;Z035;Z046;Z060;Z0532;");
    for (int kind = 2; kind < 9; kind++) {
      int k = kind;
      Check.due(0, () -> o.needed(0, k));
    }
    Desk.refused(Check.INDEX, o, () -> o.needed(-1, 2));
    Desk.refused(Check.INDEX, o, () -> o.needed(1, 9));
    for (int kind : new int[] {-1, 0, 1, 9, 100, Integer.MIN_VALUE, Integer.MAX_VALUE}) {
      Desk.refused(Check.ILLEGAL, o, () -> o.needed(0, kind));
      Desk.refused(Check.INDEX, o, () -> o.needed(kind == 0 ? -1 : kind, kind));
    }
  }

  /** The greatest amount is 99, so a greater gap can't be bridged. */
  private static void promise19Limits() {
    PermitOffice o = Desk.office("L0Naa33;P0010aa33;P0090aa44;Z020;Z041;", "P0020aa95ja52;P0030aa94ja11;Z069;");
    Check.due(-1, () -> o.needed(0, 4));
    Desk.execute(o, "Z021;");
    Check.due(99, () -> o.needed(0, 4));
    Check.due(9, () -> o.needed(0, 6));
    Check.due(-1, () -> o.needed(1, 6));
    Desk.execute(o, "Z0460;");
    Check.due(-1, () -> o.needed(1, 6));
    Desk.execute(o, "Z0461;");
    Check.due(99, () -> o.needed(1, 6));
    Check.due(99, () -> o.needed(2, 8));
    Check.due(-1, () -> o.needed(3, 8));
  }
}
