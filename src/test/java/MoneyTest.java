/** Promises 26 to 28: account, meanFloorArea, count. */
public final class MoneyTest {
  public static void main(String[] args) {
    promise26Account();
    promise26Wrong();
    promise27MeanFloorArea();
    promise28Count();
    Check.end();
  }

  private static void accountIs(PermitOffice o, int permit, int paid, int givenBack) {
    Check.due(paid, () -> o.account(permit, 0));
    Check.due(givenBack, () -> o.account(permit, 1));
    Check.due(paid - givenBack, () -> o.account(permit, 2));
  }

  private static void promise26Account() {
    PermitOffice o = new PermitOffice();
    accountIs(o, -1, 0, 0);
    Desk.execute(o, "L0Naa99;P0032ee22;P0011ii21;P0041ec11;V056,9;V057,9;C00a;");
    accountIs(o, 0, 32, 0);
    accountIs(o, 1, 22, 0);
    accountIs(o, 2, 24, 0);
    accountIs(o, -1, 78, 0);
    o.decide(0);
    o.decide(1);
    o.decide(2);
    accountIs(o, 0, 32, 0);
    accountIs(o, 1, 22, 11);
    accountIs(o, 2, 34, 0);
    for (int i = 0; i < 3; i++) {
      o.inspect(0);
    }
    accountIs(o, 0, 42, 0);
    o.reinstate(0);
    accountIs(o, 0, 67, 0);
    o.extend(0);
    accountIs(o, 0, 82, 0);
    o.revoke(0);
    accountIs(o, 0, 82, 8);
    o.pass(31);
    accountIs(o, 2, 34, 0);
    accountIs(o, -1, 138, 19);
    Desk.execute(o, "P0099ja99ka99;");
    accountIs(o, 3, 20 + 810, 0);
    o.decide(3);
    accountIs(o, 3, 830, 415);
    accountIs(o, -1, 968, 434);
  }

  private static void promise26Wrong() {
    PermitOffice o = Desk.office("L0Naa99;P0011ee11;");
    Desk.refused(Check.INDEX, o, () -> o.account(-2, 0));
    Desk.refused(Check.INDEX, o, () -> o.account(1, 3));
    Desk.refused(Check.ILLEGAL, o, () -> o.account(-1, 3));
    Desk.refused(Check.ILLEGAL, o, () -> o.account(0, -1));
    for (int wild : Desk.WILD) {
      Desk.refused(Check.INDEX, o, () -> o.account(wild, wild));
      Desk.refused(Check.ILLEGAL, o, () -> o.account(0, wild));
      Desk.refused(Check.ILLEGAL, o, () -> o.account(-1, wild));
    }
  }

  private static void promise27MeanFloorArea() {
    PermitOffice o = Desk.office("L0Naa99;P0032cc22;P0011fc11;P0011hc12;P0021ee11;C20a;");
    Desk.refused(ArithmeticException.class, o, o::meanFloorArea);
    o.decide(0);
    Check.due(12.0f, o::meanFloorArea);
    o.decide(1);
    Check.due(6.5f, o::meanFloorArea);
    o.decide(2);
    Check.due(5.0f, o::meanFloorArea);
    for (int i = 0; i < 3; i++) {
      o.inspect(2);
    }
    Check.due(6, () -> o.permit(2, 0));
    Check.due(5.0f, o::meanFloorArea);
    for (int i = 0; i < 4; i++) {
      o.inspect(0);
    }
    Check.due(3, () -> o.permit(0, 0));
    Check.due(5.0f, o::meanFloorArea);
    o.revoke(1);
    Check.due(7.0f, o::meanFloorArea);
    o.decide(3);
    Check.due(16.0f / 3.0f, o::meanFloorArea);
    o.pass(31);
    Check.due(7.0f, o::meanFloorArea);
    o.revoke(2);
    Check.due(12.0f, o::meanFloorArea);
  }

  private static void promise28Count() {
    PermitOffice o = Desk.office("L0Naa99;L0Nja32ja11;V021,1;V021,1;V021,1;");
    Desk.execute(o, "P0011cc11;P0011dc11;P0011ec11;P0011fc11;P0011gc11;C40a;");
    Desk.execute(o, "P0011hc11;P0011ii11;P0011cd11;");
    int[] counts = {2, 8, 3, 0, 0, 81 + 6, 3, 0};
    for (int i = 0; i < counts.length; i++) {
      int what = i;
      Check.due(counts[i], () -> o.count(what));
    }
    Check.due(8, () -> o.count(10));
    for (int i = 0; i < 7; i++) {
      o.decide(i);
    }
    Check.due(6, () -> o.count(6));
    for (int i = 0; i < 4; i++) {
      o.inspect(0);
    }
    o.extend(1);
    o.revoke(2);
    for (int i = 0; i < 3; i++) {
      o.inspect(4);
    }
    statuses(o, 1, 1, 3, 1, 0, 1, 1);
    Check.due(5, () -> o.count(4));
    o.pass(31);
    statuses(o, 1, 1, 1, 1, 2, 1, 1);
    Check.due(3, () -> o.count(4));
    Check.due(31, () -> o.count(3));
    Desk.write(o, "abcde");
    Check.due(5, () -> o.count(7));
    o.undo();
    Check.due(5, () -> o.count(6));
    Check.due(0, () -> o.count(3));
    for (int what : new int[] {-1, 8, 9, 17, 18, Integer.MIN_VALUE, Integer.MAX_VALUE, -2}) {
      Desk.refused(Check.ILLEGAL, o, () -> o.count(what));
    }
  }

  private static void statuses(PermitOffice o, int... want) {
    for (int i = 0; i < 7; i++) {
      int status = i;
      Check.due(want[i], () -> o.count(10 + status));
    }
  }
}
