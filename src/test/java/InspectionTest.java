/** Promises 20 to 25: condition, fulfil, inspect, reinstate, extend, pass. */
public final class InspectionTest {
  public static void main(String[] args) {
    promise20Condition();
    promise21Fulfil();
    promise22Inspect();
    promise22Failures();
    promise22Limit();
    promise23Reinstate();
    promise24Extend();
    promise25Pass();
    promise25Expiry();
    onlyWithTheRightStatus();
    Check.end();
  }

  private static void conditionIs(PermitOffice o, int index, int... want) {
    for (int i = 0; i < want.length; i++) {
      int what = i;
      Check.due(want[i], () -> o.condition(0, index, what));
    }
  }

  private static void promise20Condition() {
    PermitOffice o = Desk.office("L0Naa99;P0011ee11;P0011cc11;C03z;C10b;C00a;", "C01a;C02m;C03a;C00z;");
    conditionIs(o, 0, 3, 'z', 1);
    conditionIs(o, 1, 0, 'a', 1);
    conditionIs(o, 2, 1, 'a', 1);
    conditionIs(o, 3, 2, 'm', 1);
    conditionIs(o, 4, 3, 'a', 1);
    conditionIs(o, 5, 0, 'z', 1);
    Check.due(98, () -> o.condition(1, 0, 1));
    o.fulfil(0, 'a');
    conditionIs(o, 0, 3, 'z', 1);
    conditionIs(o, 1, 0, 'a', 0);
    conditionIs(o, 2, 1, 'a', 0);
    conditionIs(o, 3, 2, 'm', 1);
    conditionIs(o, 4, 3, 'a', 0);
    Desk.refused(Check.INDEX, o, () -> o.condition(-1, 0, 0));
    Desk.refused(Check.INDEX, o, () -> o.condition(2, 0, 3));
    Desk.refused(Check.INDEX, o, () -> o.condition(0, -1, 3));
    Desk.refused(Check.INDEX, o, () -> o.condition(0, 6, -1));
    Desk.refused(Check.INDEX, o, () -> o.condition(1, 1, 0));
    Desk.refused(Check.ILLEGAL, o, () -> o.condition(1, 0, 3));
    Desk.refused(Check.ILLEGAL, o, () -> o.condition(0, 5, -1));
    for (int wild : Desk.WILD) {
      Desk.refused(Check.INDEX, o, () -> o.condition(wild, wild, wild));
      Desk.refused(Check.INDEX, o, () -> o.condition(0, wild, wild));
      Desk.refused(Check.ILLEGAL, o, () -> o.condition(0, 0, wild));
    }
  }

  private static void promise21Fulfil() {
    PermitOffice o = Desk.office("L0Naa99;P0011ee11;P0011cc11;C00a;C01b;C02a;C03c;C10a;");
    Check.due(2, () -> o.fulfil(0, 'a'));
    Check.due(2, () -> o.permit(0, 11));
    Check.due(4, () -> o.permit(0, 12));
    Check.due(1, () -> o.permit(1, 11));
    Desk.refused(Check.NO_SUCH, o, () -> o.fulfil(0, 'a'));
    Check.due(1, () -> o.fulfil(0, 'c'));
    Desk.execute(o, "C00a;");
    Check.due(1, () -> o.fulfil(0, 'a'));
    Check.due(0, () -> o.fulfil(0, 'b'));
    Check.due(0, () -> o.fulfil(1, 'a'));
    for (int letter : new int[] {'d', 'B', 0, -1, 'b' + 256, Integer.MIN_VALUE, Integer.MAX_VALUE}) {
      Desk.refused(Check.NO_SUCH, o, () -> o.fulfil(0, letter));
      Desk.refused(Check.INDEX, o, () -> o.fulfil(2, letter));
    }
    Desk.refused(Check.INDEX, o, () -> o.fulfil(-1, 'a'));
    for (int wild : Desk.WILD) {
      Desk.refused(Check.INDEX, o, () -> o.fulfil(wild, 'a'));
    }
    for (PermitOffice each : Desk.officesByStatus()) {
      Desk.execute(each, "C03x;");
      int open = each.permit(0, 11);
      Check.due(open - 1, () -> each.fulfil(0, 'x'));
    }
  }

  private static void promise22Inspect() {
    PermitOffice o = Desk.office("L0Naa99;P0011ee11;C01a;C03b;C01c;");
    o.decide(0);
    Check.due(true, () -> o.inspect(0));
    Check.due(1, () -> o.permit(0, 7));
    Check.due(21, () -> o.account(0, 0));
    Check.due(false, () -> o.inspect(0));
    Check.due(1, () -> o.permit(0, 7));
    Check.due(1, () -> o.permit(0, 8));
    Check.due(21, () -> o.account(0, 0));
    o.fulfil(0, 'a');
    Check.due(false, () -> o.inspect(0));
    Check.due(26, () -> o.account(0, 0));
    o.fulfil(0, 'c');
    Check.due(true, () -> o.inspect(0));
    Check.due(31, () -> o.account(0, 0));
    Check.due(0, () -> o.permit(0, 8));
    Check.due(true, () -> o.inspect(0));
    Check.due(31, () -> o.account(0, 0));
    Check.due(3, () -> o.permit(0, 7));
    Check.due(2, () -> o.permit(0, 0));
    Check.due(false, () -> o.inspect(0));
    o.fulfil(0, 'b');
    Check.due(true, () -> o.inspect(0));
    Check.due(36, () -> o.account(0, 0));
    Check.due(3, () -> o.permit(0, 0));
    Check.due(4, () -> o.permit(0, 7));
    Desk.refused(Check.STATE, o, () -> o.inspect(0));
    Desk.refused(Check.INDEX, o, () -> o.inspect(-1));
    Desk.refused(Check.INDEX, o, () -> o.inspect(1));
    for (int wild : Desk.WILD) {
      Desk.refused(Check.INDEX, o, () -> o.inspect(wild));
    }
  }

  private static void promise22Failures() {
    PermitOffice o = Desk.office("L0Naa99;P0011ee11;C01a;C02b;");
    o.decide(0);
    o.inspect(0);
    Check.due(false, () -> o.inspect(0));
    Check.due(false, () -> o.inspect(0));
    Check.due(2, () -> o.permit(0, 8));
    Check.due(2, () -> o.permit(0, 0));
    o.fulfil(0, 'a');
    Check.due(true, () -> o.inspect(0));
    Check.due(false, () -> o.inspect(0));
    Check.due(1, () -> o.permit(0, 8));
    Check.due(false, () -> o.inspect(0));
    Check.due(2, () -> o.permit(0, 0));
    Check.due(36, () -> o.account(0, 0));
    Check.due(false, () -> o.inspect(0));
    Check.due(6, () -> o.permit(0, 0));
    Check.due(3, () -> o.permit(0, 8));
    Check.due(2, () -> o.permit(0, 7));
    Check.due(41, () -> o.account(0, 0));
    Desk.refused(Check.STATE, o, () -> o.inspect(0));
  }

  private static void promise22Limit() {
    PermitOffice o = Desk.office("L0Naa99;P0011ee11;");
    o.decide(0);
    o.extend(0);
    Check.due(45, () -> o.permit(0, 9));
    o.pass(10);
    o.inspect(0);
    Check.due(40, () -> o.permit(0, 9));
    Desk.execute(o, "C01a;");
    o.pass(10);
    o.inspect(0);
    Check.due(40, () -> o.permit(0, 9));
    o.fulfil(0, 'a');
    o.inspect(0);
    Check.due(50, () -> o.permit(0, 9));
  }

  private static void promise23Reinstate() {
    PermitOffice o = Desk.office("L0Naa99;P0011ee11;C01a;");
    o.decide(0);
    o.inspect(0);
    for (int i = 0; i < 3; i++) {
      o.inspect(0);
    }
    Check.due(31, () -> o.account(0, 0));
    o.pass(50);
    Check.due(1, () -> o.reinstate(0));
    Check.due(2, () -> o.permit(0, 0));
    Check.due(80, () -> o.permit(0, 9));
    Check.due(0, () -> o.permit(0, 8));
    Check.due(1, () -> o.permit(0, 7));
    Check.due(56, () -> o.account(0, 0));
    Desk.refused(Check.STATE, o, () -> o.reinstate(0));
    for (int i = 0; i < 3; i++) {
      Check.due(2, () -> o.permit(0, 0));
      Check.due(false, () -> o.inspect(0));
    }
    Check.due(66, () -> o.account(0, 0));
    Check.due(1, () -> o.reinstate(0));
    Check.due(91, () -> o.account(0, 0));
    Desk.refused(Check.INDEX, o, () -> o.reinstate(-1));
    Desk.refused(Check.INDEX, o, () -> o.reinstate(1));
    for (int wild : Desk.WILD) {
      Desk.refused(Check.INDEX, o, () -> o.reinstate(wild));
    }
  }

  private static void promise24Extend() {
    PermitOffice o = Desk.office("L0Naa99;P0011ee11;P0011cc11;C00a;");
    o.pass(2);
    o.decide(0);
    Check.due(47, () -> o.extend(0));
    Check.due(47, () -> o.permit(0, 9));
    Check.due(36, () -> o.account(0, 0));
    Desk.refused(Check.STATE, o, () -> o.extend(0));
    o.inspect(0);
    o.inspect(0);
    o.inspect(0);
    Desk.refused(Check.STATE, o, () -> o.extend(0));
    o.reinstate(0);
    Check.due(32, () -> o.permit(0, 9));
    Desk.refused(Check.STATE, o, () -> o.extend(0));
    o.fulfil(0, 'a');
    o.inspect(0);
    Desk.refused(Check.STATE, o, () -> o.extend(0));
    o.decide(1);
    o.inspect(1);
    Check.due(47, () -> o.extend(1));
    Desk.refused(Check.INDEX, o, () -> o.extend(-1));
    Desk.refused(Check.INDEX, o, () -> o.extend(2));
    for (int wild : Desk.WILD) {
      Desk.refused(Check.INDEX, o, () -> o.extend(wild));
    }
    o.undo();
    Check.due(32, () -> o.permit(1, 9));
    Check.due(47, () -> o.extend(1));
  }

  private static void promise25Pass() {
    PermitOffice o = new PermitOffice();
    Check.due(0, () -> o.pass(1));
    Check.due(0, () -> o.pass(50));
    Check.due(51, () -> o.count(3));
    for (int days : new int[] {0, 51, -1, Integer.MIN_VALUE, Integer.MAX_VALUE}) {
      Desk.refused(Check.ILLEGAL, o, () -> o.pass(days));
    }
  }

  private static void promise25Expiry() {
    PermitOffice o = Desk.office("L0Naa99;P0011cc11;P0011ec11;P0011gc11;P0011ce11;", "P0011ee11;P0011ge11;C40a;");
    for (int i = 0; i < 5; i++) {
      o.decide(i);
    }
    for (int i = 0; i < 3; i++) {
      o.inspect(4);
    }
    for (int i = 0; i < 4; i++) {
      o.inspect(3);
    }
    o.extend(2);
    Check.due(0, () -> o.pass(30));
    Check.due(2, () -> o.permit(0, 0));
    Check.due(2, () -> o.pass(1));
    int[] statuses = {4, 4, 2, 3, 6, 0};
    for (int i = 0; i < 6; i++) {
      int permit = i;
      Check.due(statuses[i], () -> o.permit(permit, 0));
    }
    Check.due(0, () -> o.pass(14));
    Check.due(1, () -> o.pass(50));
    Check.due(0, () -> o.pass(50));
    Check.due(6, () -> o.permit(4, 0));
    Check.due(2, () -> o.decide(5));
    Check.due(145 + 30, () -> o.permit(5, 9));
  }

  private static void onlyWithTheRightStatus() {
    PermitOffice[] offices = Desk.officesByStatus();
    for (int i = 0; i < 7; i++) {
      PermitOffice o = offices[i];
      if (i != 2) {
        Desk.refused(Check.STATE, o, () -> o.inspect(0));
        Desk.refused(Check.STATE, o, () -> o.extend(0));
      }
      if (i != 6) {
        Desk.refused(Check.STATE, o, () -> o.reinstate(0));
      }
    }
  }
}
