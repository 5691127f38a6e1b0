import java.util.ArrayList;
import java.util.List;

/** The edges that the document names for undo and snapshots, promises 29 to 31, and for all calls: a test for each sentence. */
public final class StateEdgeTest {
  private interface Step {
    void take(PermitOffice office);
  }

  public static void main(String[] args) {
    eachNamedCallCanBeUndone();
    otherCallsCannotBeUndone();
    undoneIfNothingBecameDifferent();
    atMostSixCanBeUndone();
    undoneCallsAreGone();
    undoLeavesTheBufferAndTheSnapshot();
    nothingToUndo();
    saveOfNothingAndOfAll();
    saveTakesThePlaceOfAnEarlierOne();
    saveKeepsWhatCanBeUndone();
    restoreWithoutASnapshot();
    restoreKeepsTheSnapshot();
    restoreLeavesTheBufferAndTheErrorPosition();
    nothingCanBeUndoneAfterRestore();
    refusedCallsLeaveThePastAndTheSnapshot();
    objectsHaveNothingInCommon();
    an512thCallIsAnswered();
    aTownThatIsFull();
    tenPermitsThatStand();
    undonePermitsCountNoMore();
    Check.end();
  }

  private static PermitOffice started() {
    PermitOffice o = Desk.office("L0Naa99;P0011ee11;P0011cc11;P0011gg11;C10a;");
    o.decide(0);
    o.decide(1);
    for (int i = 0; i < 3; i++) {
      o.inspect(1);
    }
    o.save();
    o.restore();
    return o;
  }

  private static List<Step> undoable() {
    List<Step> steps = new ArrayList<>();
    steps.add(x -> Desk.execute(x, "Z009;L0Nja11;P1010ja11;V121,1;C00z;"));
    steps.add(x -> x.rezone(0, 3));
    steps.add(x -> x.decide(2));
    steps.add(x -> x.revoke(0));
    steps.add(x -> x.revoke(1));
    steps.add(x -> x.fulfil(1, 'a'));
    steps.add(x -> x.inspect(0));
    steps.add(x -> x.reinstate(1));
    steps.add(x -> x.extend(0));
    steps.add(x -> x.pass(31));
    return steps;
  }

  private static void eachNamedCallCanBeUndone() {
    for (Step step : undoable()) {
      PermitOffice o = started();
      String before = Sight.of(o);
      step.take(o);
      Check.due(1, () -> o.count(6));
      Check.due(false, () -> Sight.of(o).equals(before));
      Check.due(0, o::undo);
      Check.due(before, () -> Sight.of(o));
      step.take(o);
      Check.due(1, () -> o.count(6));
      Check.due(false, () -> Sight.of(o).equals(before));
    }
  }

  private static void otherCallsCannotBeUndone() {
    PermitOffice o = started();
    Sight.of(o);
    o.append('Z');
    o.errorPosition();
    o.needed(0, 2);
    o.urgent(0);
    o.account(-1, 2);
    o.save();
    Check.due(0, () -> o.count(6));
    Desk.refused(Check.STATE, o, o::undo);
  }

  private static void undoneIfNothingBecameDifferent() {
    PermitOffice o = started();
    Check.due(0, () -> o.rezone(0, 0));
    Check.due(1, () -> o.count(6));
    Desk.execute(o, "Z002;");
    Check.due(2, () -> o.count(6));
    Check.due(1, o::undo);
    Check.due(0, o::undo);
    Desk.refused(Check.STATE, o, o::undo);
  }

  private static void atMostSixCanBeUndone() {
    for (int calls = 0; calls <= 14; calls++) {
      PermitOffice o = started();
      for (int i = 1; i <= calls; i++) {
        int undoable = Math.min(i, 6);
        o.pass(1);
        Check.due(undoable, () -> o.count(6));
      }
      for (int left = Math.min(calls, 6) - 1; left >= 0; left--) {
        int still = left;
        Check.due(still, o::undo);
        Check.due(still, () -> o.count(6));
      }
      int day = Math.max(0, calls - 6);
      Check.due(day, () -> o.count(3));
      Desk.refused(Check.STATE, o, o::undo);
    }
  }

  private static void undoneCallsAreGone() {
    PermitOffice o = started();
    for (int days = 1; days <= 8; days++) {
      o.pass(days);
    }
    for (int i = 0; i < 3; i++) {
      o.undo();
    }
    Check.due(15, () -> o.count(3));
    Check.due(3, () -> o.count(6));
    o.pass(50);
    Check.due(3, o::undo);
    Check.due(15, () -> o.count(3));
    for (int i = 0; i < 3; i++) {
      o.undo();
    }
    Check.due(3, () -> o.count(3));
    Desk.refused(Check.STATE, o, o::undo);
  }

  /** A call to undo brings neither the text that it took nor an earlier snapshot back. */
  private static void undoLeavesTheBufferAndTheSnapshot() {
    PermitOffice o = started();
    Desk.errorAt(2, o, "Z0x");
    Desk.execute(o, "Z009;");
    Check.due(-1, o::errorPosition);
    o.pass(5);
    o.save();
    Desk.write(o, "Z0");
    o.undo();
    o.undo();
    Check.due(2, () -> o.count(7));
    Check.due(-1, o::errorPosition);
    Check.due(2, () -> o.rule(0, 0));
    Desk.write(o, "07;");
    Check.due(1, o::execute);
    Check.due(7, () -> o.rule(0, 0));
    o.restore();
    Check.due(5, () -> o.count(3));
    Check.due(9, () -> o.rule(0, 0));
  }

  private static void nothingToUndo() {
    PermitOffice o = new PermitOffice();
    Desk.refused(Check.STATE, o, o::undo);
    Desk.errorAt(0, o, "x");
    Desk.refused(Check.STATE, o, o::undo);
    o.pass(1);
    Check.due(0, o::undo);
    Desk.refused(Check.STATE, o, o::undo);
    Desk.refused(Check.STATE, o, o::undo);
    Check.due(0, () -> o.count(3));
  }

  private static void saveOfNothingAndOfAll() {
    PermitOffice o = new PermitOffice();
    String empty = Sight.of(o);
    Check.due(0, o::save);
    Desk.execute(o, "L0Naa99;");
    for (int permits = 1; permits <= 10; permits++) {
      int saved = permits;
      Desk.execute(o, "P0010aa11;");
      o.pass(50);
      Check.due(saved, () -> o.count(1));
    }
    Check.due(0, o::restore);
    Check.due(empty, () -> Sight.of(o));
    Desk.execute(o, "L0Naa99;");
    for (int permits = 0; permits < 10; permits++) {
      Desk.execute(o, "P0010aa11;");
    }
    Check.due(10, o::save);
    Check.due(10, o::restore);
  }

  private static void saveTakesThePlaceOfAnEarlierOne() {
    PermitOffice o = started();
    o.pass(1);
    o.save();
    o.pass(2);
    Check.due(3, o::save);
    o.pass(4);
    o.restore();
    Check.due(3, () -> o.count(3));
    o.pass(1);
    o.restore();
    Check.due(3, () -> o.count(3));
  }

  private static void saveKeepsWhatCanBeUndone() {
    PermitOffice o = started();
    for (int i = 1; i <= 7; i++) {
      o.pass(1);
    }
    Desk.write(o, "Z0");
    String before = Sight.of(o);
    Check.due(3, o::save);
    Check.due(before, () -> Sight.of(o));
    Check.due(2, () -> o.count(7));
    Check.due(5, o::undo);
    Check.due(6, () -> o.count(3));
  }

  private static void restoreWithoutASnapshot() {
    PermitOffice o = Desk.office("L0Naa99;P0011ee11;");
    o.decide(0);
    Desk.write(o, "Z0");
    Desk.refused(Check.STATE, o, o::restore);
    Check.due(2, () -> o.count(6));
    Check.due(1, o::undo);
    Desk.refused(Check.STATE, o, o::restore);
  }

  private static void restoreKeepsTheSnapshot() {
    PermitOffice o = started();
    o.save();
    String saved = Sight.of(o);
    for (Step step : undoable()) {
      step.take(o);
      Check.due(3, o::restore);
      Check.due(saved, () -> Sight.of(o));
      Check.due(3, o::restore);
      Check.due(saved, () -> Sight.of(o));
    }
  }

  private static void restoreLeavesTheBufferAndTheErrorPosition() {
    PermitOffice o = started();
    Desk.write(o, "ab");
    o.save();
    Desk.write(o, "c");
    Check.thrown(Check.ILLEGAL, o::execute);
    o.restore();
    Check.due(0, () -> o.count(7));
    Check.due(0, o::errorPosition);
    Desk.write(o, "Z00");
    o.restore();
    Check.due(3, () -> o.count(7));
    Check.due(0, o::errorPosition);
    Desk.write(o, "5;");
    Check.due(1, o::execute);
    o.restore();
    Check.due(-1, o::errorPosition);
    Check.due(2, () -> o.rule(0, 0));
  }

  private static void nothingCanBeUndoneAfterRestore() {
    PermitOffice o = started();
    for (int i = 0; i < 6; i++) {
      o.pass(1);
    }
    o.save();
    o.restore();
    Check.due(0, () -> o.count(6));
    Desk.refused(Check.STATE, o, o::undo);
    o.pass(1);
    Check.due(0, o::undo);
    Check.due(6, () -> o.count(3));
  }

  /** Two offices do the same, but that the second one also refuses whatever it can between the calls. */
  private static void refusedCallsLeaveThePastAndTheSnapshot() {
    PermitOffice plain = started();
    PermitOffice other = started();
    for (PermitOffice o : new PermitOffice[] {plain, other}) {
      o.pass(1);
      o.save();
      o.rezone(0, 1);
      o.extend(0);
    }
    refusals(other);
    Check.due(Sight.of(plain), () -> Sight.of(other));
    for (int left = 2; left >= 0; left--) {
      int still = left;
      Check.due(still, plain::undo);
      Check.due(still, other::undo);
      refusals(other);
      Check.due(Sight.of(plain), () -> Sight.of(other));
    }
    refusals(other);
    Check.due(3, plain::restore);
    Check.due(3, other::restore);
    Check.due(Sight.of(plain), () -> Sight.of(other));
  }

  private static void refusals(PermitOffice o) {
    Check.thrown(Check.ILLEGAL, () -> o.append(' '));
    Check.thrown(Check.ILLEGAL, o::execute);
    Check.thrown(Check.INDEX, () -> o.rule(4, 0));
    Check.thrown(Check.INDEX, () -> o.lot(1, 0));
    Check.thrown(Check.INDEX, () -> o.rezone(1, 0));
    Check.thrown(Check.ILLEGAL, () -> o.rezone(0, 4));
    Check.thrown(Check.INDEX, () -> o.cell(20, 0, 0));
    Check.thrown(Check.INDEX, () -> o.largest(1));
    Check.thrown(Check.ILLEGAL, () -> o.permit(0, 13));
    Check.thrown(Check.INDEX, () -> o.findings(3, true));
    Check.thrown(Check.ILLEGAL, () -> o.finding(0, 9, 0));
    Check.thrown(Check.STATE, () -> o.decide(0));
    Check.thrown(Check.INDEX, () -> o.decide(3));
    Check.thrown(Check.NO_SUCH, () -> o.reason(0));
    Check.thrown(Check.STATE, () -> o.revoke(2));
    Check.thrown(Check.NO_SUCH, () -> o.urgent(3));
    Check.thrown(Check.INDEX, () -> o.variance(0, 0));
    Check.thrown(Check.ILLEGAL, () -> o.needed(0, 1));
    Check.thrown(Check.INDEX, () -> o.condition(0, 0, 0));
    Check.thrown(Check.NO_SUCH, () -> o.fulfil(0, 'a'));
    Check.thrown(Check.STATE, () -> o.inspect(1));
    Check.thrown(Check.STATE, () -> o.reinstate(0));
    Check.thrown(Check.STATE, () -> o.extend(2));
    Check.thrown(Check.ILLEGAL, () -> o.pass(0));
    Check.thrown(Check.ILLEGAL, () -> o.pass(51));
    Check.thrown(Check.INDEX, () -> o.account(-2, 0));
    Check.thrown(Check.ILLEGAL, () -> o.count(8));
  }

  private static void objectsHaveNothingInCommon() {
    PermitOffice one = started();
    PermitOffice two = started();
    String before = Sight.of(two);
    Desk.execute(one, "Z009;L0Nja11;V121,1;C20z;");
    one.rezone(0, 3);
    one.decide(2);
    one.pass(50);
    one.save();
    Desk.write(one, "abc");
    Check.due(before, () -> Sight.of(two));
    Check.due(0, () -> two.count(7));
    Check.due(3, two::restore);
    Check.due(before, () -> Sight.of(two));
  }

  /** The last day that there can be, and behind a limit of it the suspended permit and the one applied for. */
  private static void an512thCallIsAnswered() {
    PermitOffice o = new PermitOffice();
    int calls = 0;
    for (String part : new String[] {"L0Na", "a99;", "P001", "1ee1", "1;P0", "011c", "c11;", "P001", "1gg1", "1;C1", "0a;"}) {
      o.append(Desk.packed(part));
      calls++;
    }
    o.execute();
    o.decide(1);
    for (int i = 0; i < 3; i++) {
      o.inspect(1);
    }
    calls += 5;
    while (calls < 506) {
      o.pass(50);
      calls++;
    }
    Check.due(24500, () -> o.count(3));
    Check.due(2, () -> o.decide(0));
    Check.due(24545, () -> o.extend(0));
    Check.due(0, () -> o.urgent(0));
    Check.due(1, () -> o.urgent(1));
    Check.due(2, () -> o.urgent(2));
    PermitOffice days = new PermitOffice();
    for (int i = 0; i < 510; i++) {
      days.pass(50);
    }
    Check.due(5, days::undo);
    Check.due(25450, () -> days.count(3));
  }

  /** All that there can be at once, in the past and in the snapshot too. */
  private static void aTownThatIsFull() {
    PermitOffice o = new PermitOffice();
    for (int i = 0; i < 8; i++) {
      char column = (char) ('a' + 2 * i);
      Desk.execute(o, "L" + i % 4 + "NESW".charAt(i % 4) + column + "a29" + column + "j25;");
    }
    for (int i = 0; i < 10; i++) {
      String conditions = "C?0z;C?1z;C?2z;C?3z;C?0a;C?1a;".replace('?', (char) ('0' + i));
      Desk.execute(o, "P" + i % 8 + "599aa99ja99aj95;" + conditions);
    }
    for (int i = 0; i < 12; i++) {
      Desk.execute(o, "V" + i % 8 + (2 + i % 7) + "99,99;");
    }
    Check.due(10, o::save);
    Check.due(10, o::restore);
    String full = Sight.of(o);
    for (int i = 0; i < 7; i++) {
      int permit = i;
      Check.due(1, () -> o.decide(permit));
    }
    for (int i = 0; i < 6; i++) {
      o.undo();
    }
    Check.due(1, () -> o.count(11));
    Check.due(10, o::restore);
    Check.due(full, () -> Sight.of(o));
  }

  /** Ten permits of one cell each that name the last of twelve variances. */
  private static PermitOffice tenIssued() {
    PermitOffice o = Desk.office("L0Naa99;Z0562;");
    for (int i = 0; i < 11; i++) {
      Desk.execute(o, "V072,99;");
    }
    Desk.execute(o, "V071,99;");
    for (int i = 0; i < 10; i++) {
      Desk.execute(o, "P0011" + (char) ('b' + i % 7) + (char) ('c' + i / 7) + "11;");
    }
    o.save();
    for (int permit = 0; permit < 10; permit++) {
      o.decide(permit);
    }
    return o;
  }

  private static void tenPermitsThatStand() {
    PermitOffice o = tenIssued();
    Check.due(10, () -> o.count(4));
    Check.due(10, () -> o.count(12));
    Check.due(10, () -> o.lot(0, 3));
    Check.due(10, () -> o.lot(0, 4));
    Check.due(9, () -> o.cell(3, 3, 1));
    Check.due(-1, () -> o.cell(4, 3, 1));
    Check.due(10, () -> o.variance(11, 4));
    Check.due(0, () -> o.variance(10, 4));
    Check.due(1 << 11, () -> o.permit(9, 10));
    Check.due(9, () -> o.urgent(9));
    Desk.refused(Check.NO_SUCH, o, () -> o.urgent(10));
    Check.due(310, () -> o.account(-1, 0));
    Check.due(1.0f, o::meanFloorArea);
    Check.due(28, () -> o.largest(0));
    Desk.refused(Check.NO_SUCH, o, o::worst);
    Desk.execute(o, "Z009;");
    Check.due(0, o::worst);
    Check.due(0, () -> o.largest(0));
    Check.due(10, () -> o.pass(31));
    Desk.refused(Check.NO_SUCH, o, o::worst);
    Desk.refused(ArithmeticException.class, o, o::meanFloorArea);
  }

  /** What is left of them in the object must not be seen, neither at once nor when others take their numbers. */
  private static void undonePermitsCountNoMore() {
    PermitOffice o = Desk.office("L0Naa99;V021,9;V071,9;Z0562;");
    Desk.execute(o, "P0011ee11;P0011cc11;C00a;C10a;");
    o.decide(0);
    o.decide(1);
    Desk.execute(o, "Z009;");
    Check.due(0, o::worst);
    for (int i = 0; i < 4; i++) {
      o.undo();
    }
    Desk.refused(Check.INDEX, o, () -> o.permit(0, 0));
    Desk.refused(Check.NO_SUCH, o, o::worst);
    Desk.refused(Check.NO_SUCH, o, () -> o.urgent(0));
    Desk.refused(ArithmeticException.class, o, o::meanFloorArea);
    int[] zeros = {o.count(1), o.count(4), o.count(10), o.count(12), o.lot(0, 3), o.lot(0, 4), o.variance(1, 4),
      o.account(-1, 0), o.account(-1, 1)};
    for (int zero : zeros) {
      Check.due(0, () -> zero);
    }
    Check.due(-1, () -> o.cell(4, 4, 1));
    Check.due(42, () -> o.largest(0));
    Check.due(0, () -> o.pass(50));
    Desk.execute(o, "P0011ee11;");
    Check.due(0, () -> o.permit(0, 12));
    Check.due(0, () -> o.permit(0, 10));
    Check.due(0, () -> o.finding(0, 1, 0));
    Check.due(21, () -> o.account(-1, 0));
    Check.due(0, () -> o.urgent(0));
    Desk.refused(Check.NO_SUCH, o, () -> o.urgent(1));
  }
}
