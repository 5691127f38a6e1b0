/** The edges that the document names for variances, and for promises 18 and 19: a test for each sentence. */
public final class VarianceEdgeTest {
  public static void main(String[] args) {
    inForceUntilTheLastDay();
    amountThatJustHelps();
    limitIsLessByTheAmountButAtLeast0();
    limitIsGreaterByTheAmount();
    useVarianceAlwaysHelps();
    varianceOfAnotherLotOrKind();
    leastAmountIsUsed();
    leastAmountOfUseVariances();
    noVarianceWithoutAFinding();
    numbersOfVariances();
    permitsThatNameAVariance();
    neededIsMinus1IfNoAmountHelps();
    neededIs0WhereThereIsNoFinding();
    neededIsTheLeastAmount();
    neededWhetherThereIsAVarianceOrNot();
    neededKinds();
    Check.end();
  }

  private static void used(int variance, PermitOffice o, int kind) {
    Check.due(variance, () -> o.finding(0, kind, 2));
    Check.due(variance < 0 ? 0 : 1, () -> o.findings(0, true) >> kind & 1);
  }

  private static void inForceUntilTheLastDay() {
    int[] lastDays = {0, 1, 50, 99};
    PermitOffice o = Desk.office("L0Naa99;P0061ee11;V053,0;V054,1;V055,50;V056,99;");
    for (int day = 0; day <= 101; day++) {
      int least = -1;
      for (int i = 3; i >= 0; i--) {
        int variance = i;
        boolean inForce = day <= lastDays[i];
        least = inForce ? i : least;
        Check.due(inForce ? 1 : 0, () -> o.variance(variance, 5));
        Check.due(lastDays[i], () -> o.variance(variance, 3));
      }
      used(least, o, 5);
      o.pass(1);
    }
  }

  /** For each kind the amount that is just enough, and those beside it. */
  private static void amountThatJustHelps() {
    int[] enough = {0, 0, 6, 5, 10, 4, 5, 0, 40};
    for (int kind = 2; kind <= 8; kind++) {
      if (kind != 7) {
        PermitOffice o = Desk.office("L0Naa99;P0051dd33;", "Z009;Z018;Z022;Z031;Z041;Z069;");
        Desk.execute(o, "V0" + kind + (enough[kind] - 1) + ",9;");
        used(-1, o, kind);
        Desk.execute(o, "V0" + kind + (enough[kind] + 1) + ",9;");
        used(1, o, kind);
        Desk.execute(o, "V0" + kind + enough[kind] + ",9;");
        used(2, o, kind);
      }
    }
  }

  private static void limitIsLessByTheAmountButAtLeast0() {
    for (int kind : new int[] {2, 3, 8}) {
      for (String amount : new String[] {"9", "10", "99"}) {
        PermitOffice o = Desk.office("L0Naa99;P0010aa91;Z009;Z019;Z069;V0" + kind + "8,9;");
        Check.due(0, () -> o.finding(0, kind, 0));
        Check.due(9, () -> o.finding(0, kind, 1));
        used(-1, o, kind);
        Desk.execute(o, "V0" + kind + amount + ",9;");
        used(1, o, kind);
      }
    }
  }

  private static void limitIsGreaterByTheAmount() {
    PermitOffice o = Desk.office("L0Naa33;P0010aa33;Z020;V0499,9;");
    used(-1, o, 4);
    Desk.execute(o, "Z021;");
    used(0, o, 4);
    Desk.execute(o, "Z0299;");
    used(0, o, 4);
    PermitOffice tall = Desk.office("L0Naa33;P0091ba11;Z031;Z041;", "V057,9;V058,9;V0599,9;V068,9;V069,9;");
    used(1, tall, 5);
    used(4, tall, 6);
  }

  private static void useVarianceAlwaysHelps() {
    for (int use = 0; use < 6; use++) {
      for (String amount : new String[] {"1", "99"}) {
        PermitOffice o = Desk.office("L0Naa99;P0" + use + "11ee11;Z050;V07" + amount + ",0;");
        used(0, o, 7);
        o.pass(1);
        used(-1, o, 7);
      }
    }
  }

  private static void varianceOfAnotherLotOrKind() {
    PermitOffice o = Desk.office("L0Naa99;L0Nja99;P0041ee11;V151,9;V041,9;V061,9;");
    used(-1, o, 5);
    Desk.execute(o, "V059,9;");
    used(3, o, 5);
    Check.due(0b100000, () -> o.findings(0, true));
  }

  /** Among those that help and are in force; of the same amount the one with the lowest number. */
  private static void leastAmountIsUsed() {
    PermitOffice o = Desk.office("L0Naa99;P0061ee11;V052,9;V0599,9;V055,2;V054,1;V054,1;", "V053,0;V053,0;V055,2;");
    used(5, o, 5);
    o.pass(1);
    used(3, o, 5);
    o.pass(1);
    used(2, o, 5);
    o.pass(1);
    used(1, o, 5);
    o.pass(6);
    used(1, o, 5);
    o.pass(1);
    used(-1, o, 5);
  }

  private static void leastAmountOfUseVariances() {
    PermitOffice o = Desk.office("L0Naa99;P0011ee11;Z050;V079,9;V072,1;V071,0;V071,0;V072,1;");
    used(2, o, 7);
    o.pass(1);
    used(1, o, 7);
    o.pass(1);
    used(0, o, 7);
  }

  private static void noVarianceWithoutAFinding() {
    PermitOffice o = Desk.office("L0Naa99;P0031ee11;", "V021,9;V031,9;V041,9;V051,9;V061,9;V071,9;V081,9;");
    for (int kind = 0; kind <= 8; kind++) {
      used(-1, o, kind);
    }
    Desk.execute(o, "Z032;");
    used(3, o, 5);
  }

  private static void numbersOfVariances() {
    PermitOffice empty = Desk.office("L0Naa99;");
    Desk.refused(Check.INDEX, empty, () -> empty.variance(0, 0));
    PermitOffice o = Desk.office("L0Naa99;L0Nja99;V021,0;V1899,99;");
    int[][] want = {{0, 2, 1, 0, 0, 1}, {1, 8, 99, 99, 0, 1}};
    for (int i = 0; i < 12; i++) {
      int variance = i / 6;
      int what = i % 6;
      Check.due(want[variance][what], () -> o.variance(variance, what));
    }
    Desk.refused(Check.INDEX, o, () -> o.variance(-1, -1));
    Desk.refused(Check.INDEX, o, () -> o.variance(2, 6));
    Desk.refused(Check.ILLEGAL, o, () -> o.variance(0, -1));
    Desk.refused(Check.ILLEGAL, o, () -> o.variance(1, 6));
    for (int wild : Desk.WILD) {
      Desk.refused(Check.INDEX, o, () -> o.variance(wild, wild));
      Desk.refused(Check.ILLEGAL, o, () -> o.variance(1, wild));
    }
  }

  /** They name it whatever becomes of them later; those that were refused name none. */
  private static void permitsThatNameAVariance() {
    PermitOffice o = Desk.office("L0Naa99;V059,20;P0041bc11;P0041cc11;P0041dc11;", "P0141ec11;Z0561;");
    Check.due(0, () -> o.variance(0, 4));
    for (int permit = 0; permit < 4; permit++) {
      o.decide(permit);
      int naming = Math.min(permit + 1, 3);
      Check.due(naming, () -> o.variance(0, 4));
    }
    o.revoke(0);
    for (int i = 0; i < 4; i++) {
      o.inspect(1);
    }
    o.pass(31);
    int[] statuses = {5, 3, 4, 1};
    for (int i = 0; i < 4; i++) {
      int permit = i;
      Check.due(statuses[i], () -> o.permit(permit, 0));
      Check.due(i < 3 ? 1 : 0, () -> o.permit(permit, 10));
    }
    Check.due(3, () -> o.variance(0, 4));
    Check.due(0, () -> o.variance(0, 5));
  }

  private static void neededIsMinus1IfNoAmountHelps() {
    PermitOffice o = Desk.office("L0Naa33;P0010aa33;P0090aa44;", "P0020aa95ja52;P0030aa94ja11;");
    Desk.execute(o, "Z020;Z0460;Z069;");
    Check.due(-1, () -> o.needed(0, 4));
    Check.due(-1, () -> o.needed(1, 6));
    Check.due(-1, () -> o.needed(3, 8));
    Desk.execute(o, "Z021;Z0461;");
    Check.due(99, () -> o.needed(0, 4));
    Check.due(99, () -> o.needed(1, 6));
    Check.due(99, () -> o.needed(2, 8));
  }

  private static void neededIs0WhereThereIsNoFinding() {
    PermitOffice o = Desk.office("L0Naa33;P0031bb11;Z001;Z0212;Z044;");
    for (int i = 2; i <= 8; i++) {
      int kind = i;
      Check.due(0, () -> o.needed(0, kind));
    }
    Desk.execute(o, "Z002;Z012;Z0211;Z032;Z043;Z0562;Z064;");
    for (int i = 2; i <= 8; i++) {
      int kind = i;
      Check.due(1, () -> o.needed(0, kind));
    }
  }

  private static void neededIsTheLeastAmount() {
    PermitOffice o = Desk.office("L0Naa99;P0091aa11;P0091ei11;P0091ii11;P0091ia11;Z031;Z050;");
    int[] side = {0, 0, 0, 0};
    int[] front = {0, 8, 8, 0};
    for (int setback = 1; setback <= 9; setback++) {
      Desk.execute(o, "Z00" + setback + ";Z01" + setback + ";");
      for (int i = 0; i < 4; i++) {
        int permit = i;
        Check.due(Math.max(0, setback - front[i]), () -> o.needed(permit, 2));
        Check.due(setback - side[i], () -> o.needed(permit, 3));
      }
    }
    Check.due(8, () -> o.needed(0, 5));
    Check.due(1, () -> o.needed(0, 7));
  }

  private static void neededWhetherThereIsAVarianceOrNot() {
    PermitOffice o = Desk.office("L0Naa99;P0061ee11;Z0562;");
    for (String variance : new String[] {"", "V0599,9;", "V053,9;", "V053,0;", "V051,9;", "V079,9;"}) {
      Desk.execute(o, variance + "Z000;");
      Check.due(3, () -> o.needed(0, 5));
      Check.due(1, () -> o.needed(0, 7));
      Check.due(0, () -> o.needed(0, 6));
    }
    o.pass(1);
    Check.due(3, () -> o.needed(0, 5));
  }

  private static void neededKinds() {
    PermitOffice o = Desk.office("L0Naa99;P0011ee11;");
    Check.due(0, () -> o.needed(0, 2));
    Check.due(0, () -> o.needed(0, 8));
    for (int kind : new int[] {-1, 0, 1, 9}) {
      Desk.refused(Check.ILLEGAL, o, () -> o.needed(0, kind));
      Desk.refused(Check.INDEX, o, () -> o.needed(-1, kind));
      Desk.refused(Check.INDEX, o, () -> o.needed(1, kind));
    }
    for (int wild : Desk.WILD) {
      Desk.refused(Check.ILLEGAL, o, () -> o.needed(0, wild));
      Desk.refused(Check.INDEX, o, () -> o.needed(wild, 2));
    }
  }
}
