/** Promises 29 to 31: undo, save, restore. */
public final class UndoTest {
  private interface Step {
    void take(PermitOffice office);
  }

  public static void main(String[] args) {
    promise29UndoesEachCall();
    promise29AtMostSix();
    promise29LeavesNothing();
    promise29NotUndoable();
    promise29Buffer();
    promise30Save();
    promise31Restore();
    promise31KeepsTheSnapshot();
    Check.end();
  }

  /** Town without the number of calls that can be undone, as that differs. */
  private static String town(PermitOffice o) {
    String[] seen = Sight.of(o).split(" ");
    seen[6] = "";
    return String.join(" ", seen);
  }

  private static void undone(PermitOffice o, Step step) {
    String before = town(o);
    int undoable = o.count(6);
    step.take(o);
    Check.due(Math.min(6, undoable + 1), () -> o.count(6));
    int left = o.count(6) - 1;
    Check.due(left, o::undo);
    Check.due(before, () -> town(o));
    step.take(o);
  }

  private static void promise29UndoesEachCall() {
    PermitOffice o = new PermitOffice();
    Check.thrown(Check.STATE, o::undo);
    undone(o, x -> Desk.execute(x, "L0Naa99;P0011ee11;P0041cc11;C00a;V052,40;Z0278;"));
    undone(o, x -> x.rezone(0, 1));
    undone(o, x -> x.rezone(0, 1));
    undone(o, x -> x.decide(0));
    undone(o, x -> x.decide(1));
    undone(o, x -> x.inspect(0));
    undone(o, x -> x.inspect(0));
    undone(o, x -> x.inspect(0));
    undone(o, x -> x.reinstate(0));
    undone(o, x -> x.extend(0));
    undone(o, x -> x.fulfil(0, 'a'));
    undone(o, x -> x.inspect(0));
    undone(o, x -> x.pass(31));
    undone(o, x -> Desk.execute(x, "P0011gg11;P0011aa11;C23b;L2Wja11;V171,1;"));
    undone(o, x -> x.decide(2));
    undone(o, x -> x.decide(3));
    undone(o, x -> x.revoke(2));
    undone(o, x -> x.pass(50));
    undone(o, x -> Desk.execute(x, "Z0211;"));
    Check.due(2, () -> o.reason(3));
    Check.due(81, () -> o.count(3));
  }

  private static void promise29AtMostSix() {
    PermitOffice o = new PermitOffice();
    String[] towns = new String[9];
    for (int i = 0; i < 9; i++) {
      towns[i] = town(o);
      o.pass(i + 1);
      int kept = Math.min(i + 1, 6);
      Check.due(kept, () -> o.count(6));
    }
    for (int i = 8; i >= 3; i--) {
      int left = i - 3;
      Check.due(left, o::undo);
      Check.same("the town after undo", towns[i], town(o));
    }
    Desk.refused(Check.STATE, o, o::undo);
    Check.due(6, () -> o.count(3));
    o.pass(1);
    o.pass(2);
    Check.due(1, o::undo);
    o.pass(5);
    Check.due(2, () -> o.count(6));
    Check.due(1, o::undo);
    Check.due(7, () -> o.count(3));
    Check.due(0, o::undo);
    Check.due(6, () -> o.count(3));
  }

  /** What was undone must not show in what takes its place, nor what a snapshot kept in what came later. */
  private static void promise29LeavesNothing() {
    PermitOffice o = Desk.office("L0Naa99;Z0530;");
    o.save();
    Desk.execute(o, "V072,9;P0032cc22;P0012ee11;P0042gg11;C10a;C10b;");
    Check.due(2, () -> o.decide(0));
    Check.due(2, () -> o.decide(1));
    Check.due(1, () -> o.decide(2));
    o.extend(0);
    o.inspect(0);
    o.inspect(1);
    Desk.execute(o, "Z009;");
    o.restore();
    Desk.execute(o, "Z008;");
    Desk.execute(o, "Z002;");
    Desk.execute(o, "L0Wja11;P0011cc11;P0011aa11;P0011ii11;");
    int[] first = {0, 0, 0, 1, 1, 1, 1, 0, 0, -1, 0, 0, 0};
    for (int i = 0; i < 13; i++) {
      int what = i;
      Check.due(first[i], () -> o.permit(0, what));
      Check.due(first[i], () -> o.permit(1, what));
      Check.due(first[i], () -> o.permit(2, what));
    }
    Check.due(21, () -> o.account(1, 0));
    Check.due(0, () -> o.account(2, 1));
    Check.due(0, () -> o.account(0, 1));
    Desk.execute(o, "Z0563;");
    Check.due(1, () -> o.decide(1));
    Check.due(2, () -> o.reason(1));
    o.save();
    o.undo();
    Desk.execute(o, "P0011ee11;Z000;");
    Check.due(1, () -> o.decide(1));
    Check.due(3, () -> o.reason(1));
    o.decide(0);
    Check.due(45, () -> o.extend(0));
    Desk.execute(o, "Z001;");
    o.restore();
    Check.due(2, () -> o.reason(1));
    Check.due(2, () -> o.decide(0));
    Check.due(45, () -> o.extend(0));
  }

  /** Calls that are not named, or that throw, are no calls to undo. */
  private static void promise29NotUndoable() {
    PermitOffice o = Desk.office("L0Naa99;P0011ee11;");
    o.decide(0);
    Check.due(2, () -> o.count(6));
    Check.outcome(() -> o.decide(0));
    Check.outcome(() -> o.decide(5));
    Check.outcome(() -> o.pass(0));
    Check.outcome(() -> o.rezone(0, 9));
    Check.outcome(() -> o.fulfil(0, 'a'));
    Check.outcome(() -> o.reinstate(0));
    Desk.errorAt(0, o, "x");
    Desk.write(o, "Z001;");
    Sight.of(o);
    o.save();
    Check.due(2, () -> o.count(6));
    Check.due(1, o::undo);
    Check.due(0, () -> o.permit(0, 0));
    Check.due(0, o::undo);
    Check.due(0, () -> o.count(0));
    Desk.refused(Check.STATE, o, o::undo);
  }

  private static void promise29Buffer() {
    PermitOffice o = Desk.office("Z009;");
    Desk.write(o, "Z00");
    o.undo();
    Check.due(3, () -> o.count(7));
    Check.due(2, () -> o.rule(0, 0));
    Desk.write(o, "7;");
    Check.due(1, o::execute);
    Check.due(7, () -> o.rule(0, 0));
  }

  private static void promise30Save() {
    PermitOffice o = new PermitOffice();
    Check.due(0, o::save);
    Desk.execute(o, "L0Naa99;P0011ee11;P0011cc11;");
    String before = Sight.of(o);
    Check.due(2, o::save);
    Check.due(before, () -> Sight.of(o));
    Check.due(1, () -> o.count(6));
    o.undo();
    Check.due(0, () -> o.count(1));
    Check.due(2, o::restore);
    Check.due(2, () -> o.count(1));
  }

  private static void promise31Restore() {
    PermitOffice o = new PermitOffice();
    Desk.refused(Check.STATE, o, o::restore);
    Desk.execute(o, "L0Naa99;P0011ee11;P0041cc11;C00a;V052,40;Z0278;");
    o.decide(0);
    o.inspect(0);
    o.pass(3);
    o.save();
    String saved = town(o);
    Desk.execute(o, "L1Sja11;P1011ja11;C10c;C01b;V171,1;Z0299;Z311;");
    o.rezone(0, 3);
    o.decide(1);
    o.decide(2);
    o.inspect(0);
    o.inspect(0);
    o.reinstate(0);
    o.extend(0);
    o.fulfil(0, 'b');
    o.pass(50);
    Desk.errorAt(2, o, "Z0x");
    Desk.write(o, "Z0");
    Check.due(2, o::restore);
    Check.due(saved, () -> town(o));
    Check.due(0, () -> o.count(6));
    Check.due(2, () -> o.count(7));
    Check.due(2, o::errorPosition);
    Desk.refused(Check.STATE, o, o::undo);
    Desk.write(o, "01;");
    Check.due(1, o::execute);
    Check.due(1, () -> o.rule(0, 0));
    Check.due(0, o::undo);
    Check.due(saved, () -> town(o));
  }

  private static void promise31KeepsTheSnapshot() {
    PermitOffice o = Desk.office("L0Naa99;P0011ee11;");
    o.save();
    String saved = town(o);
    for (int i = 0; i < 3; i++) {
      o.decide(0);
      o.pass(50);
      Desk.execute(o, "P0011cc11;Z009;");
      Check.due(1, o::restore);
      Check.due(saved, () -> town(o));
    }
    o.pass(5);
    o.save();
    o.pass(6);
    o.undo();
    o.pass(7);
    Check.due(1, o::restore);
    Check.due(5, () -> o.count(3));
  }
}
