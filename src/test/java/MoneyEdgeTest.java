/** The edges that the document names for money and counts, and for promises 16 and 26 to 28: a test for each sentence. */
public final class MoneyEdgeTest {
  public static void main(String[] args) {
    applyingCosts20AndTheFloorArea();
    eachUsedVarianceCosts10();
    inspectionsBehindFailuresCost5();
    reinstatingCosts25();
    extendingCosts15();
    halfIsGivenBackRoundedDown();
    twoForEachPhaseNotPassed();
    revokedOnlyIfIssuedOrSuspended();
    accountOfAll();
    accountsThatThereAreNot();
    meanOfThoseThatStand();
    meanIsAFloat();
    countsByStatus();
    whatsOfCounts();
    charactersInTheBuffer();
    Check.end();
  }

  private static void accountIs(PermitOffice o, int permit, int paid, int givenBack) {
    Check.due(paid, () -> o.account(permit, 0));
    Check.due(givenBack, () -> o.account(permit, 1));
    Check.due(paid - givenBack, () -> o.account(permit, 2));
  }

  private static void applyingCosts20AndTheFloorArea() {
    PermitOffice o = Desk.office("L0Naa99;P0011aa11;P0091aa11;P0091aa99ja99aj95;", "P0021aa22bb22;");
    accountIs(o, 0, 21, 0);
    accountIs(o, 1, 29, 0);
    accountIs(o, 2, 1883, 0);
    accountIs(o, 3, 34, 0);
    accountIs(o, -1, 1967, 0);
  }

  /** Without a finding none is used, and for a permit that is refused none is paid. */
  private static void eachUsedVarianceCosts10() {
    PermitOffice o = Desk.office("L0Naa99;P0011ee11;P0041cc11;P0141gg11;P0191ii11;", "V051,9;V051,9;V078,9;V021,9;");
    Desk.execute(o, "Z0561;");
    int[] paid = {21, 34, 44, 29};
    for (int permit = 0; permit < 4; permit++) {
      o.decide(permit);
      accountIs(o, permit, paid[permit], permit == 3 ? 14 : 0);
    }
  }

  private static PermitOffice issued(String conditions) {
    PermitOffice o = Desk.office("L0Naa99;P0011ee11;" + conditions);
    Check.due(2, () -> o.decide(0));
    return o;
  }

  private static void inspectionsBehindFailuresCost5() {
    PermitOffice o = issued("C01a;");
    int[] paid = {21, 21, 26, 31};
    for (int i = 0; i < 4; i++) {
      o.inspect(0);
      accountIs(o, 0, paid[i], 0);
    }
    o.reinstate(0);
    accountIs(o, 0, 56, 0);
    o.inspect(0);
    accountIs(o, 0, 56, 0);
    o.fulfil(0, 'a');
    o.inspect(0);
    accountIs(o, 0, 61, 0);
    o.inspect(0);
    accountIs(o, 0, 61, 0);
    o.inspect(0);
    accountIs(o, 0, 61, 0);
  }

  private static void reinstatingCosts25() {
    PermitOffice o = Desk.officesByStatus()[6];
    accountIs(o, 0, 31, 0);
    o.reinstate(0);
    accountIs(o, 0, 56, 0);
    Desk.refused(Check.STATE, o, () -> o.reinstate(0));
    accountIs(o, 0, 56, 0);
  }

  private static void extendingCosts15() {
    PermitOffice o = issued("");
    o.extend(0);
    accountIs(o, 0, 36, 0);
    Desk.refused(Check.STATE, o, () -> o.extend(0));
    accountIs(o, 0, 36, 0);
  }

  private static void halfIsGivenBackRoundedDown() {
    String[] buildings = {"aa11", "aa21", "aa31", "aa99ja99aj95"};
    int[] paid = {21, 22, 23, 227};
    int[] back = {10, 11, 11, 113};
    for (int i = 0; i < 4; i++) {
      PermitOffice o = Desk.office("L0Naa99;P0019" + buildings[i] + ";");
      Check.due(1, () -> o.decide(0));
      accountIs(o, 0, paid[i], back[i]);
    }
  }

  private static void twoForEachPhaseNotPassed() {
    for (int phase = 0; phase < 4; phase++) {
      PermitOffice o = issued("C0" + phase + "a;");
      for (int i = 0; i < phase; i++) {
        o.inspect(0);
      }
      int back = 8 - 2 * phase;
      Check.due(back, () -> o.revoke(0));
      accountIs(o, 0, 21, back);
      o.undo();
      accountIs(o, 0, 21, 0);
      for (int i = 0; i < 3; i++) {
        o.inspect(0);
      }
      Check.due(back, () -> o.revoke(0));
      accountIs(o, 0, 31, back);
      Check.due(5, () -> o.permit(0, 0));
    }
  }

  private static void revokedOnlyIfIssuedOrSuspended() {
    PermitOffice[] offices = Desk.officesByStatus();
    for (int status = 0; status < 7; status++) {
      PermitOffice o = offices[status];
      Desk.refused(Check.INDEX, o, () -> o.revoke(-1));
      Desk.refused(Check.INDEX, o, () -> o.revoke(1));
      if (status == 2 || status == 6) {
        Check.due(8, () -> o.revoke(0));
      }
      Desk.refused(Check.STATE, o, () -> o.revoke(0));
    }
    for (int wild : Desk.WILD) {
      Desk.refused(Check.INDEX, offices[0], () -> offices[0].revoke(wild));
    }
  }

  private static void accountOfAll() {
    PermitOffice o = new PermitOffice();
    accountIs(o, -1, 0, 0);
    Desk.execute(o, "L0Naa99;P0011ee11;");
    accountIs(o, -1, 21, 0);
    Desk.execute(o, "P0021aa22;P0011gg11;");
    accountIs(o, -1, 21 + 28 + 21, 0);
    o.decide(0);
    o.decide(1);
    o.revoke(0);
    accountIs(o, -1, 70, 22);
  }

  private static void accountsThatThereAreNot() {
    PermitOffice o = Desk.office("L0Naa99;P0011ee11;P0011ee11;");
    for (int what : new int[] {-1, 3}) {
      Desk.refused(Check.ILLEGAL, o, () -> o.account(-1, what));
      Desk.refused(Check.ILLEGAL, o, () -> o.account(0, what));
      Desk.refused(Check.ILLEGAL, o, () -> o.account(1, what));
      Desk.refused(Check.INDEX, o, () -> o.account(-2, what));
      Desk.refused(Check.INDEX, o, () -> o.account(2, what));
    }
    for (int wild : Desk.WILD) {
      Desk.refused(Check.ILLEGAL, o, () -> o.account(-1, wild));
      Desk.refused(Check.INDEX, o, () -> o.account(wild, 0));
    }
    PermitOffice empty = new PermitOffice();
    Desk.refused(Check.INDEX, empty, () -> empty.account(0, 0));
    Desk.refused(Check.ILLEGAL, empty, () -> empty.account(-1, 3));
  }

  private static void meanOfThoseThatStand() {
    PermitOffice[] offices = Desk.officesByStatus();
    for (int status = 0; status < 7; status++) {
      PermitOffice o = offices[status];
      if (Desk.stands(status)) {
        Check.due(1.0f, o::meanFloorArea);
      } else {
        Desk.refused(ArithmeticException.class, o, o::meanFloorArea);
      }
    }
    PermitOffice empty = new PermitOffice();
    Desk.refused(ArithmeticException.class, empty, empty::meanFloorArea);
  }

  private static void meanIsAFloat() {
    PermitOffice o = Desk.office("L0Naa99;P0012cc31;P0013cd31;P0022ce21;");
    float[] means = {3.0f, 3.0f, 10.0f / 3.0f};
    for (int i = 0; i < 3; i++) {
      float mean = means[i];
      o.decide(i);
      Check.due(mean, o::meanFloorArea);
    }
    o.revoke(1);
    Check.due(3.5f, o::meanFloorArea);
  }

  private static void countsByStatus() {
    PermitOffice[] offices = Desk.officesByStatus();
    for (int i = 0; i < 49; i++) {
      PermitOffice o = offices[i / 7];
      int status = i % 7;
      Check.due(i / 7 == status ? 1 : 0, () -> o.count(10 + status));
      Check.due(Desk.stands(i / 7) ? 1 : 0, () -> o.count(4));
    }
  }

  private static void whatsOfCounts() {
    PermitOffice o = Desk.officesByStatus()[0];
    for (int what : new int[] {-1, 8, 9, 17, Integer.MIN_VALUE + 10, Integer.MIN_VALUE + 16}) {
      Desk.refused(Check.ILLEGAL, o, () -> o.count(what));
    }
    for (int wild : Desk.WILD) {
      Desk.refused(Check.ILLEGAL, o, () -> o.count(wild));
    }
    int[] want = {1, 1, 0, 0, 0, 81, 1, 0};
    for (int i = 0; i < 8; i++) {
      int what = i;
      Check.due(want[i], () -> o.count(what));
    }
  }

  private static void charactersInTheBuffer() {
    PermitOffice o = new PermitOffice();
    for (int i = 0; i <= 60; i++) {
      int characters = i;
      Check.due(characters, () -> o.count(7));
      if (i < 60) {
        o.append('a');
      }
    }
    Desk.refused(Check.STATE, o, () -> o.append('a'));
    Check.due(60, () -> o.count(7));
    Check.thrown(Check.ILLEGAL, o::execute);
    Check.due(0, () -> o.count(7));
  }
}
