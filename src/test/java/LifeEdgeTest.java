/** The edges that the document names for permits, deciding, phases and time, and for promises 10, 14, 15, 17 and 20 to 25: a test for each sentence. */
public final class LifeEdgeTest {
  public static void main(String[] args) {
    numbersOfPermits();
    tenPermitsInTheirOrder();
    whatsOfPermits();
    issuedWithoutFindings();
    issuedIfAllAreRelieved();
    refusedIfOneIsNotRelieved();
    namesFromThenOn();
    decidedOnlyIfAppliedFor();
    reasonIsTheLowestKind();
    reasonOnlyIfRefused();
    urgencyByStatusAndLimit();
    urgencyOfEqualsAscends();
    urgentIndices();
    sixConditionsInTheirOrder();
    conditionsRefused();
    conditionsWhateverTheStatus();
    fulfilsAllWithTheLetter();
    fulfilRefused();
    finishedAfterFourInspections();
    conditionsOfThePresentPhase();
    suspendedAfterThreeFailures();
    failuresOfOnePhase();
    failuresAreForgotten();
    inspectedOnlyIfIssued();
    reinstatedOnlyIfSuspended();
    reinstatedInEachPhase();
    expiresBehindItsLimit();
    limitOfAPassedInspection();
    extendedOnceInAll();
    extendedOnlyIfIssued();
    suspendedAndFinishedDoNotExpire();
    daysFrom1To50();
    numberThatExpires();
    Check.end();
  }

  private static void permitIs(PermitOffice o, int permit, int... want) {
    for (int i = 0; i < want.length; i++) {
      int what = i;
      Check.due(want[i], () -> o.permit(permit, what));
    }
  }

  private static void numbersOfPermits() {
    PermitOffice o = Desk.office("L0Naa11;L1Nta11;P0010aa11;P1599aa99ja99aj95;");
    permitIs(o, 0, 0, 0, 0, 1, 0, 1, 1, 0, 0, -1, 0, 0, 0);
    permitIs(o, 1, 0, 1, 5, 9, 9, 207, 1863, 0, 0, -1, 0, 0, 0);
  }

  private static void tenPermitsInTheirOrder() {
    PermitOffice o = Desk.office("L0Naa99;");
    for (int i = 0; i < 10; i++) {
      int permit = i;
      Desk.refused(Check.INDEX, o, () -> o.permit(permit, 0));
      Desk.execute(o, "P001" + permit + "aa11;");
      Check.due(permit, () -> o.permit(permit, 4));
      Check.due(permit + 1, () -> o.count(1));
    }
    Desk.refused(Check.INDEX, o, () -> o.permit(10, 0));
  }

  private static void whatsOfPermits() {
    PermitOffice o = Desk.office("L0Naa99;P0011ee11;P0011ee11;");
    for (int what : new int[] {-1, 13}) {
      Desk.refused(Check.ILLEGAL, o, () -> o.permit(0, what));
      Desk.refused(Check.ILLEGAL, o, () -> o.permit(1, what));
      Desk.refused(Check.INDEX, o, () -> o.permit(-1, what));
      Desk.refused(Check.INDEX, o, () -> o.permit(2, what));
    }
    for (int wild : Desk.WILD) {
      Desk.refused(Check.ILLEGAL, o, () -> o.permit(0, wild));
      Desk.refused(Check.INDEX, o, () -> o.permit(wild, 12));
    }
    Check.due(0, () -> o.permit(1, 12));
  }

  private static void issuedWithoutFindings() {
    PermitOffice o = Desk.office("L0Naa99;P0032ee22;V021,9;V058,9;");
    Check.due(2, () -> o.decide(0));
    permitIs(o, 0, 2, 0, 0, 3, 2, 4, 12, 0, 0, 30, 0, 0, 0);
    Check.due(32, () -> o.account(0, 0));
  }

  private static void issuedIfAllAreRelieved() {
    PermitOffice o = Desk.office("L0Naa99;P0591ee22;Z0531;", "V056,9;V0599,9;V077,0;V081,9;V083,9;");
    Check.due(0b110100000, () -> o.findings(0, false));
    Check.due(2, () -> o.decide(0));
    Check.due(0b10101, () -> o.permit(0, 10));
    Check.due(20 + 36 + 30, () -> o.account(0, 0));
  }

  private static void refusedIfOneIsNotRelieved() {
    PermitOffice o = Desk.office("L0Naa99;P0591ee22;Z0531;", "V056,9;V0599,9;V077,0;V082,9;");
    Check.due(0b010100000, () -> o.findings(0, true));
    Check.due(1, () -> o.decide(0));
    permitIs(o, 0, 1, 0, 5, 9, 1, 4, 36, 0, 0, -1, 0, 0, 0);
    Check.due(56, () -> o.account(0, 0));
    Check.due(28, () -> o.account(0, 1));
    Check.due(8, () -> o.reason(0));
  }

  private static void namesFromThenOn() {
    PermitOffice o = Desk.office("L0Naa99;P0042ee22;V055,1;");
    Check.due(0, () -> o.permit(0, 10));
    o.decide(0);
    Desk.execute(o, "V051,9;Z039;");
    Check.due(1, () -> o.permit(0, 10));
    Check.due(-1, () -> o.finding(0, 5, 2));
    Desk.execute(o, "Z033;");
    Check.due(1, () -> o.permit(0, 10));
    Check.due(1, () -> o.finding(0, 5, 2));
    o.pass(31);
    Check.due(4, () -> o.permit(0, 0));
    Check.due(1, () -> o.permit(0, 10));
  }

  private static void decidedOnlyIfAppliedFor() {
    PermitOffice[] offices = Desk.officesByStatus();
    for (int status = 1; status < 7; status++) {
      PermitOffice o = offices[status];
      Desk.refused(Check.STATE, o, () -> o.decide(0));
    }
    PermitOffice o = offices[0];
    Desk.refused(Check.INDEX, o, () -> o.decide(-1));
    Desk.refused(Check.INDEX, o, () -> o.decide(1));
    for (int wild : Desk.WILD) {
      Desk.refused(Check.INDEX, o, () -> o.decide(wild));
    }
    Check.due(2, () -> o.decide(0));
  }

  private static void reasonIsTheLowestKind() {
    String[] relieved = {"", "V029,9;", "V039,9;", "V042,9;", "V058,9;", "V062,9;", "V071,9;"};
    int[] reasons = {2, 3, 4, 5, 6, 7, 8};
    for (int i = 0; i < 7; i++) {
      PermitOffice o = Desk.office("L0Naa99;P0590aa11;Z009;Z019;Z020;Z031;Z041;Z050;Z069;");
      for (int k = 0; k <= i; k++) {
        Desk.execute(o, relieved[k] + "Z100;");
      }
      int reason = reasons[i];
      Check.due(1, () -> o.decide(0));
      Check.due(reason, () -> o.reason(0));
      Desk.execute(o, "Z000;Z010;Z0299;Z039;Z0499;Z0563;Z060;");
      Check.due(reason, () -> o.reason(0));
    }
    PermitOffice o = Desk.office("L0Naa99;P0011ee11;P0590ja11;P0590ee11;Z009;Z050;");
    Desk.execute(o, "Z0563;Z002;");
    o.decide(0);
    o.decide(1);
    o.decide(2);
    Check.due(0, () -> o.reason(1));
    Check.due(1, () -> o.reason(2));
  }

  private static void reasonOnlyIfRefused() {
    PermitOffice[] offices = Desk.officesByStatus();
    for (int status = 0; status < 7; status++) {
      PermitOffice o = offices[status];
      if (status == 1) {
        Check.due(7, () -> o.reason(0));
      } else {
        Desk.refused(Check.NO_SUCH, o, () -> o.reason(0));
      }
      Desk.refused(Check.INDEX, o, () -> o.reason(-1));
      Desk.refused(Check.INDEX, o, () -> o.reason(1));
    }
    for (int wild : Desk.WILD) {
      Desk.refused(Check.INDEX, offices[1], () -> offices[1].reason(wild));
    }
  }

  private static void urgency(PermitOffice o, int... permits) {
    for (int i = 0; i < permits.length; i++) {
      int index = i;
      Check.due(permits[i], () -> o.urgent(index));
    }
    Desk.refused(Check.NO_SUCH, o, () -> o.urgent(permits.length));
  }

  private static void urgencyByStatusAndLimit() {
    PermitOffice o = Desk.office("L0Naa99;P0011cc11;P0011dc11;P0011ec11;P0011fc11;", "C10a;P0011gc11;P0011gc11;");
    urgency(o, 0, 1, 2, 3, 4, 5);
    o.decide(2);
    o.pass(1);
    o.decide(1);
    o.decide(3);
    urgency(o, 2, 1, 3, 0, 4, 5);
    o.extend(2);
    urgency(o, 1, 3, 2, 0, 4, 5);
    for (int i = 0; i < 3; i++) {
      o.inspect(1);
    }
    urgency(o, 3, 2, 1, 0, 4, 5);
    o.decide(4);
    o.decide(5);
    urgency(o, 3, 4, 2, 1, 0);
    o.pass(31);
    urgency(o, 2, 1, 0);
    o.revoke(1);
    urgency(o, 2, 0);
    for (int i = 0; i < 4; i++) {
      o.inspect(2);
    }
    urgency(o, 0);
  }

  private static void urgencyOfEqualsAscends() {
    PermitOffice o = Desk.office("L0Naa99;P0011cc11;P0011dc11;P0011ec11;P0011fc11;", "C00a;C10a;");
    for (int permit = 3; permit >= 0; permit--) {
      o.decide(permit);
    }
    urgency(o, 0, 1, 2, 3);
    for (int i = 0; i < 6; i++) {
      o.inspect(1 - i % 2);
    }
    urgency(o, 2, 3, 0, 1);
    o.reinstate(1);
    urgency(o, 1, 2, 3, 0);
  }

  private static void urgentIndices() {
    PermitOffice[] offices = Desk.officesByStatus();
    for (int status = 0; status < 7; status++) {
      PermitOffice o = offices[status];
      if (status == 0 || status == 2 || status == 6) {
        Check.due(0, () -> o.urgent(0));
      } else {
        Desk.refused(Check.NO_SUCH, o, () -> o.urgent(0));
      }
      Desk.refused(Check.NO_SUCH, o, () -> o.urgent(1));
      Desk.refused(Check.NO_SUCH, o, () -> o.urgent(-1));
    }
    for (int wild : Desk.WILD) {
      Desk.refused(Check.NO_SUCH, offices[0], () -> offices[0].urgent(wild));
    }
  }

  private static void sixConditionsInTheirOrder() {
    PermitOffice o = Desk.office("L0Naa99;P0011ee11;");
    int[][] want = {{3, 'z'}, {0, 'a'}, {1, 'a'}, {2, 'm'}, {3, 'z'}, {0, 'b'}};
    for (int i = 0; i < 6; i++) {
      int index = i;
      Desk.refused(Check.INDEX, o, () -> o.condition(0, index, 0));
      Desk.execute(o, "C0" + want[index][0] + (char) want[index][1] + ";");
      Check.due(want[index][0], () -> o.condition(0, index, 0));
      Check.due(want[index][1], () -> o.condition(0, index, 1));
      Check.due(1, () -> o.condition(0, index, 2));
      Check.due(index + 1, () -> o.permit(0, 11));
      Check.due(index + 1, () -> o.permit(0, 12));
    }
    o.fulfil(0, 'a');
    int[] open = {1, 0, 0, 1, 1, 1};
    for (int i = 0; i < 6; i++) {
      int index = i;
      Check.due(open[i], () -> o.condition(0, index, 2));
    }
  }

  private static void conditionsRefused() {
    PermitOffice o = Desk.office("L0Naa99;P0011ee11;P0011ee11;C00a;C00a;C00a;C00a;C00a;C00a;");
    for (int what : new int[] {-1, 3}) {
      Desk.refused(Check.ILLEGAL, o, () -> o.condition(0, 0, what));
      Desk.refused(Check.ILLEGAL, o, () -> o.condition(0, 5, what));
      Desk.refused(Check.INDEX, o, () -> o.condition(0, -1, what));
      Desk.refused(Check.INDEX, o, () -> o.condition(0, 6, what));
      Desk.refused(Check.INDEX, o, () -> o.condition(1, 0, what));
      Desk.refused(Check.INDEX, o, () -> o.condition(-1, 0, what));
      Desk.refused(Check.INDEX, o, () -> o.condition(2, 0, what));
    }
    for (int wild : Desk.WILD) {
      Desk.refused(Check.ILLEGAL, o, () -> o.condition(0, 0, wild));
      Desk.refused(Check.INDEX, o, () -> o.condition(0, wild, 0));
      Desk.refused(Check.INDEX, o, () -> o.condition(wild, 0, 0));
    }
  }

  private static void conditionsWhateverTheStatus() {
    PermitOffice[] offices = Desk.officesByStatus();
    for (int status = 0; status < 7; status++) {
      PermitOffice o = offices[status];
      int before = o.permit(0, 12);
      int same = status;
      Check.due(1, () -> Desk.execute(o, "C03z;"));
      Check.due(before + 1, () -> o.permit(0, 12));
      Check.due(same, () -> o.permit(0, 0));
      Check.due(before, () -> o.fulfil(0, 'z'));
      Check.due(same, () -> o.permit(0, 0));
    }
  }

  private static void fulfilsAllWithTheLetter() {
    PermitOffice o = Desk.office("L0Naa99;P0011ee11;P0011ee11;C00a;C01z;C02a;C03b;C10a;");
    Check.due(2, () -> o.fulfil(0, 'a'));
    Desk.refused(Check.NO_SUCH, o, () -> o.fulfil(0, 'a'));
    Desk.execute(o, "C03a;");
    Check.due(2, () -> o.fulfil(0, 'a'));
    Check.due(1, () -> o.fulfil(0, 'z'));
    Check.due(0, () -> o.fulfil(0, 'b'));
    Check.due(5, () -> o.permit(0, 12));
    Check.due(1, () -> o.permit(1, 11));
    Check.due(0, () -> o.fulfil(1, 'a'));
  }

  private static void fulfilRefused() {
    PermitOffice o = Desk.office("L0Naa99;P0011ee11;P0011ee11;C00a;C03z;");
    int[] letters = {'`', 'b', 'y', '{', 'A', 'Z', 0, -1, 'a' + 256, 'a' + (1 << 16), 'a' - 256, Integer.MIN_VALUE, Integer.MAX_VALUE};
    for (int letter : letters) {
      Desk.refused(Check.NO_SUCH, o, () -> o.fulfil(0, letter));
      Desk.refused(Check.INDEX, o, () -> o.fulfil(-1, letter));
      Desk.refused(Check.INDEX, o, () -> o.fulfil(2, letter));
    }
    Desk.refused(Check.NO_SUCH, o, () -> o.fulfil(1, 'a'));
    Desk.refused(Check.NO_SUCH, o, () -> o.fulfil(1, 0));
    for (int wild : Desk.WILD) {
      Desk.refused(Check.INDEX, o, () -> o.fulfil(wild, 'a'));
    }
    Check.due(2, () -> o.permit(0, 11));
  }

  private static PermitOffice issued(String conditions) {
    PermitOffice o = Desk.office("L0Naa99;P0011ee11;" + conditions);
    Check.due(2, () -> o.decide(0));
    return o;
  }

  private static void finishedAfterFourInspections() {
    PermitOffice o = issued("");
    for (int i = 0; i < 4; i++) {
      int phase = i;
      Check.due(2, () -> o.permit(0, 0));
      Check.due(phase, () -> o.permit(0, 7));
      Check.due(true, () -> o.inspect(0));
    }
    permitIs(o, 0, 3, 0, 0, 1, 1, 1, 1, 4, 0, -1, 0, 0, 0);
  }

  private static void conditionsOfThePresentPhase() {
    for (int i = 0; i < 4; i++) {
      int phase = i;
      PermitOffice o = issued("C0" + phase + "a;");
      for (int k = 0; k < phase; k++) {
        Check.due(true, () -> o.inspect(0));
      }
      Check.due(false, () -> o.inspect(0));
      Check.due(phase, () -> o.permit(0, 7));
      o.fulfil(0, 'a');
      Desk.execute(o, "C0" + (phase + 3) % 4 + "b;");
      Check.due(true, () -> o.inspect(0));
      Check.due(1, () -> o.permit(0, 11));
    }
  }

  private static void suspendedAfterThreeFailures() {
    for (int phase = 0; phase < 4; phase++) {
      PermitOffice o = issued("C0" + phase + "a;");
      for (int i = 0; i < phase; i++) {
        o.inspect(0);
      }
      for (int i = 1; i <= 3; i++) {
        int failures = i;
        Check.due(2, () -> o.permit(0, 0));
        Check.due(false, () -> o.inspect(0));
        Check.due(failures, () -> o.permit(0, 8));
      }
      Check.due(6, () -> o.permit(0, 0));
      Check.due(-1, () -> o.permit(0, 9));
      o.fulfil(0, 'a');
      Check.due(6, () -> o.permit(0, 0));
      Check.due(3, () -> o.permit(0, 8));
      Desk.refused(Check.STATE, o, () -> o.inspect(0));
    }
  }

  private static void failuresOfOnePhase() {
    PermitOffice o = issued("C00a;C01b;C02c;C03d;");
    for (int phase = 0; phase < 4; phase++) {
      int letter = 'a' + phase;
      Check.due(false, () -> o.inspect(0));
      Check.due(false, () -> o.inspect(0));
      Check.due(2, () -> o.permit(0, 8));
      Check.due(2, () -> o.permit(0, 0));
      o.fulfil(0, letter);
      Check.due(true, () -> o.inspect(0));
      Check.due(0, () -> o.permit(0, 8));
    }
    Check.due(3, () -> o.permit(0, 0));
  }

  private static void failuresAreForgotten() {
    PermitOffice o = issued("C00a;");
    for (int round = 0; round < 3; round++) {
      for (int i = 0; i < 3; i++) {
        Check.due(2, () -> o.permit(0, 0));
        o.inspect(0);
      }
      Check.due(6, () -> o.permit(0, 0));
      Check.due(0, () -> o.reinstate(0));
      Check.due(0, () -> o.permit(0, 8));
    }
  }

  private static void inspectedOnlyIfIssued() {
    PermitOffice[] offices = Desk.officesByStatus();
    for (int status = 0; status < 7; status++) {
      PermitOffice o = offices[status];
      if (status != 2) {
        Desk.refused(Check.STATE, o, () -> o.inspect(0));
      }
      Desk.refused(Check.INDEX, o, () -> o.inspect(-1));
      Desk.refused(Check.INDEX, o, () -> o.inspect(1));
    }
    for (int wild : Desk.WILD) {
      Desk.refused(Check.INDEX, offices[2], () -> offices[2].inspect(wild));
    }
    Check.due(true, () -> offices[2].inspect(0));
  }

  private static void reinstatedOnlyIfSuspended() {
    PermitOffice[] offices = Desk.officesByStatus();
    for (int status = 0; status < 7; status++) {
      PermitOffice o = offices[status];
      if (status != 6) {
        Desk.refused(Check.STATE, o, () -> o.reinstate(0));
      }
      Desk.refused(Check.INDEX, o, () -> o.reinstate(-1));
      Desk.refused(Check.INDEX, o, () -> o.reinstate(1));
    }
    for (int wild : Desk.WILD) {
      Desk.refused(Check.INDEX, offices[6], () -> offices[6].reinstate(wild));
    }
    Check.due(0, () -> offices[6].reinstate(0));
    Desk.refused(Check.STATE, offices[6], () -> offices[6].reinstate(0));
  }

  private static void reinstatedInEachPhase() {
    for (int i = 0; i < 4; i++) {
      int phase = i;
      PermitOffice o = issued("C0" + phase + "a;");
      for (int k = 0; k < phase + 3; k++) {
        o.inspect(0);
      }
      o.pass(50);
      Check.due(phase, () -> o.reinstate(0));
      permitIs(o, 0, 2, 0, 0, 1, 1, 1, 1, phase, 0, 80, 0, 1, 1);
      Check.due(0, () -> o.pass(30));
      Check.due(1, () -> o.pass(1));
    }
  }

  private static void expiresBehindItsLimit() {
    PermitOffice o = Desk.office("L0Naa99;P0011ee11;");
    o.pass(50);
    o.decide(0);
    Check.due(80, () -> o.permit(0, 9));
    Check.due(0, () -> o.pass(29));
    Check.due(0, () -> o.pass(1));
    Check.due(80, () -> o.count(3));
    Check.due(2, () -> o.permit(0, 0));
    Check.due(1, () -> o.pass(1));
    permitIs(o, 0, 4, 0, 0, 1, 1, 1, 1, 0, 0, -1, 0, 0, 0);
    Check.due(0, () -> o.pass(1));
  }

  /** It may lie before the limit that an extension had given; a failed inspection leaves it as it is. */
  private static void limitOfAPassedInspection() {
    PermitOffice o = issued("C01a;");
    Check.due(45, () -> o.extend(0));
    o.inspect(0);
    Check.due(30, () -> o.permit(0, 9));
    o.pass(30);
    Check.due(false, () -> o.inspect(0));
    Check.due(30, () -> o.permit(0, 9));
    o.fulfil(0, 'a');
    Check.due(true, () -> o.inspect(0));
    Check.due(60, () -> o.permit(0, 9));
    Check.due(0, () -> o.pass(30));
    Check.due(1, () -> o.pass(1));
  }

  private static void extendedOnceInAll() {
    PermitOffice o = issued("C01a;");
    Check.due(45, () -> o.extend(0));
    Desk.refused(Check.STATE, o, () -> o.extend(0));
    o.inspect(0);
    Desk.refused(Check.STATE, o, () -> o.extend(0));
    for (int i = 0; i < 3; i++) {
      o.inspect(0);
    }
    o.reinstate(0);
    Desk.refused(Check.STATE, o, () -> o.extend(0));
    PermitOffice late = issued("");
    late.pass(30);
    Check.due(45, () -> late.extend(0));
    Check.due(0, () -> late.pass(15));
    late.save();
    Check.due(1, () -> late.pass(1));
    late.restore();
    Desk.refused(Check.STATE, late, () -> late.extend(0));
    late.inspect(0);
    late.undo();
    Desk.refused(Check.STATE, late, () -> late.extend(0));
  }

  private static void extendedOnlyIfIssued() {
    PermitOffice[] offices = Desk.officesByStatus();
    for (int status = 0; status < 7; status++) {
      PermitOffice o = offices[status];
      if (status != 2) {
        Desk.refused(Check.STATE, o, () -> o.extend(0));
      }
      Desk.refused(Check.INDEX, o, () -> o.extend(-1));
      Desk.refused(Check.INDEX, o, () -> o.extend(1));
    }
    for (int wild : Desk.WILD) {
      Desk.refused(Check.INDEX, offices[2], () -> offices[2].extend(wild));
    }
    Check.due(45, () -> offices[2].extend(0));
    Check.due(0, () -> offices[6].reinstate(0));
    Check.due(45, () -> offices[6].extend(0));
  }

  private static void suspendedAndFinishedDoNotExpire() {
    PermitOffice[] offices = Desk.officesByStatus();
    for (int status = 0; status < 7; status++) {
      PermitOffice o = offices[status];
      int left = status == 2 ? 4 : status;
      int expiring = status == 2 ? 1 : 0;
      Check.due(expiring, () -> o.pass(50));
      Check.due(0, () -> o.pass(50));
      Check.due(left, () -> o.permit(0, 0));
    }
  }

  private static void daysFrom1To50() {
    PermitOffice o = new PermitOffice();
    for (int i = 0; i <= 51; i++) {
      int days = i;
      int before = o.count(3);
      if (days == 0 || days == 51) {
        Desk.refused(Check.ILLEGAL, o, () -> o.pass(days));
      } else {
        Check.due(0, () -> o.pass(days));
        Check.due(before + days, () -> o.count(3));
      }
    }
    Desk.refused(Check.ILLEGAL, o, () -> o.pass(-1));
    for (int wild : Desk.WILD) {
      if (wild != 32) {
        Desk.refused(Check.ILLEGAL, o, () -> o.pass(wild));
      }
    }
  }

  private static void numberThatExpires() {
    for (int issued = 0; issued <= 7; issued++) {
      PermitOffice o = Desk.office("L0Naa99;");
      for (int permit = 0; permit < 7; permit++) {
        Desk.execute(o, "P0011" + (char) ('b' + permit) + "c11;");
        if (permit < issued) {
          o.decide(permit);
        }
      }
      int expiring = issued;
      Check.due(expiring, () -> o.count(12));
      Check.due(0, () -> o.pass(30));
      Check.due(expiring, () -> o.pass(1));
      Check.due(expiring, () -> o.count(14));
      Check.due(7 - expiring, () -> o.count(10));
    }
  }
}
