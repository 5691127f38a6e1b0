/** Promises 1 to 4: a new object, append, execute, errorPosition. */
public final class TextTest {
  public static void main(String[] args) {
    promise01NewObject();
    promise02Append();
    promise03Execute();
    promise04ErrorsOfCommandsAndLots();
    promise04ErrorsOfPermits();
    promise04ErrorsOfVariances();
    promise04ErrorsOfConditions();
    promise04ErrorsOfRules();
    promise04ErrorsOfTooMany();
    promise04Position();
    Check.end();
  }

  private static void promise01NewObject() {
    PermitOffice o = new PermitOffice();
    for (int what : new int[] {0, 1, 2, 3, 4, 5, 6, 7, 10, 11, 12, 13, 14, 15, 16}) {
      Check.due(0, () -> o.count(what));
    }
    int[] first = {2, 1, 50, 3, 10, 63, 1};
    for (int i = 0; i < 28; i++) {
      int rule = i;
      Check.due(first[i % 7], () -> o.rule(rule / 7, rule % 7));
    }
    Check.due(-1, () -> o.cell(0, 0, 0));
    Check.due(-1, o::errorPosition);
    Check.thrown(Check.INDEX, () -> o.lot(0, 0));
    Check.thrown(Check.INDEX, () -> o.permit(0, 0));
    Check.thrown(Check.INDEX, () -> o.variance(0, 0));
    Check.thrown(Check.NO_SUCH, o::worst);
    Check.thrown(Check.STATE, o::undo);
    Check.thrown(Check.STATE, o::restore);
  }

  private static void promise02Append() {
    PermitOffice o = new PermitOffice();
    Check.due(4, () -> o.append(Desk.packed("L0Na")));
    Check.due(4, () -> o.append(0));
    Check.due(5, () -> o.append('a' << 16));
    Check.due(7, () -> o.append('1' << 24 | '1'));
    Check.due(8, () -> o.append(';' << 8));
    Check.due(1, o::execute);
    Check.due(0, () -> o.cell(0, 0, 0));
    for (int code : new int[] {1, 9, 32, 127, 128, 200, 255}) {
      Desk.refused(Check.ILLEGAL, o, () -> o.append(code));
      Desk.refused(Check.ILLEGAL, o, () -> o.append(code << 8 | 'a'));
      Desk.refused(Check.ILLEGAL, o, () -> o.append('a' << 24 | code << 16));
      Desk.refused(Check.ILLEGAL, o, () -> o.append('a' << 8 | code << 24));
    }
    Check.due(2, () -> o.append(33 << 8 | 126));
    for (int i = 0; i < 14; i++) {
      o.append(Desk.packed("aaaa"));
    }
    Check.due(58, () -> o.count(7));
    Desk.refused(Check.STATE, o, () -> o.append(Desk.packed("abc")));
    Desk.refused(Check.ILLEGAL, o, () -> o.append(Desk.packed("abc") | 1 << 24));
    Check.due(60, () -> o.append('a' << 24 | 'b'));
    Check.due(60, () -> o.append(0));
    Desk.refused(Check.STATE, o, () -> o.append('a'));
    Desk.refused(Check.ILLEGAL, o, () -> o.append(32));
  }

  private static void promise03Execute() {
    PermitOffice o = new PermitOffice();
    Desk.write(o, "L1Saa99;P0523cc12dd21;C03z;V0799,99;Z3542;");
    Check.due(5, o::execute);
    Check.due(0, () -> o.count(7));
    Check.due(1, () -> o.lot(0, 0));
    Check.due(2, () -> o.lot(0, 1));
    Check.due(81, () -> o.lot(0, 2));
    int[] permit = {0, 0, 5, 2, 3, 4, 8, 0, 0, -1, 0, 1, 1};
    for (int i = 0; i < permit.length; i++) {
      int what = i;
      Check.due(permit[i], () -> o.permit(0, what));
    }
    Check.due(28, () -> o.account(0, 0));
    Check.due(3, () -> o.condition(0, 0, 0));
    Check.due(122, () -> o.condition(0, 0, 1));
    int[] variance = {0, 7, 99, 99, 0, 1};
    for (int i = 0; i < variance.length; i++) {
      int what = i;
      Check.due(variance[i], () -> o.variance(0, what));
    }
    Check.due(42, () -> o.rule(3, 5));
    Check.due(1, () -> o.count(6));
    o.pass(7);
    Desk.execute(o, "V022,0;V022,10;");
    Check.due(7, () -> o.variance(1, 3));
    Check.due(17, () -> o.variance(2, 3));
    Desk.write(o, "Z001;Z002;Z003;Z004;Z005;Z006;Z007;Z008;Z009;Z000;Z001;Z003;");
    Check.due(12, o::execute);
    Check.due(3, () -> o.rule(0, 0));
    Desk.errorAt(5, o, "Z001;X");
    Check.due(3, () -> o.rule(0, 0));
  }

  private static PermitOffice base() {
    return Desk.office("L0Naa99;P0011cc22;");
  }

  private static void errors(PermitOffice office, Object... textsAndPositions) {
    for (int i = 0; i < textsAndPositions.length; i += 2) {
      Desk.errorAt((Integer) textsAndPositions[i + 1], office, (String) textsAndPositions[i]);
    }
  }

  /** Each text is executed by an office of its own. */
  private static void fine(String... texts) {
    for (String text : texts) {
      PermitOffice o = base();
      Desk.write(o, text);
      Check.due(text.replaceAll("[^;]", "").length(), o::execute);
      Check.due(-1, o::errorPosition);
    }
  }

  private static void promise04ErrorsOfCommandsAndLots() {
    errors(base(), "", 0, "X", 0, "l0Nja11;", 0, ";", 0, "0", 0, "L0Nja11;;", 8, "L0Nja11;x", 8,
        "L", 1, "L4Nja11;", 1, "LNja11;", 1, "L0", 2, "L0X", 2, "L0nja11;", 2, "L00ja11;", 2,
        "L0N", 3, "L0Nua11;", 3, "L0NAa11;", 3, "L0N;", 3, "L0N`a11;", 3,
        "L0Nj", 4, "L0Njo11;", 4, "L0NjN11;", 4, "L0Nja", 5, "L0Nja01;", 5, "L0Njaa1;", 5, "L0Nja:1;", 5,
        "L0Nja1", 6, "L0Nja10;", 6, "L0Nja1;", 6, "L0Nja1:;", 6, "L0Nja11", 7, "L0Nja11,", 7, "L0Nja11Z", 7, "L0Nja11u", 7);
    errors(base(), "L0Nta21;", 3, "L0Nta2", 6, "L0Nta20;", 6, "L0Njn12;", 3, "L0Nma91;", 3,
        "L0Nja11ta21;", 7, "L0Nja11jn12;", 7, "L0Nja11ka11ta21;", 11,
        "L0Nja11ka11la11ma11;", 15, "L0Nja11ka11la11", 15, "L0Nja11ka11la11m", 15, "L0Nja11ka11la11X", 15,
        "L0Nia11;", 7, "L0Nia11", 7, "L0Nja11ka11ai11;", 15, "L0Nja22;L0Nkb11;", 15, "L0Nja22;L0Njb11,", 15);
    fine("L3Wja11;", "L2Eja91;", "L1Saj94;", "L0Nja11ka11la11;", "L0Nja11ja11ja22;", "L0Nja11;L0Nka11;L0Nla11;",
        "L0Ntn11;", "L0Nla99lj95;");
  }

  private static void promise04ErrorsOfPermits() {
    errors(base(), "P", 1, "P1010aa11;", 1, "P8010aa11;", 1, "Pa", 1, "P0", 2, "P0610aa11;", 2, "P0a", 2,
        "P00", 3, "P0000aa11;", 3, "P00a", 3, "P00:0aa11;", 3, "P001", 4, "P001x", 4, "P001:", 4, "P0010", 5, "P0010;", 5,
        "P0010ua11;", 5, "P0010aa11", 9, "P0010aa11,", 9, "P0010ta21;", 5, "P0010an12;", 5,
        "P0010aa11aa11aa11aa11;", 17, "P1010ja11;L0Nja11;", 1, "P0010aa11;P1", 11);
    errors(new PermitOffice(), "P0010aa11;", 1);
    fine("P0590tn11;", "P0019aa99bb99cc99;", "L0Nja11;P1010ja11;", "P0010ja11;P0010ja11;");
  }

  private static void promise04ErrorsOfVariances() {
    errors(base(), "V", 1, "V121,1;", 1, "Va", 1, "V0", 2, "V011,1;", 2, "V091,1;", 2, "V0x", 2, "V02", 3,
        "V020,1;", 3, "V0200,1;", 3, "V020", 3, "V02,1;", 3, "V02:,1;", 3, "V021,:;", 5, "V021", 4, "V021;", 4, "V02100,1;", 5, "V0210", 5,
        "V021,", 5, "V021,;", 5, "V021,-", 5, "V021,00;", 6, "V021,05;", 6, "V021,100;", 7, "V021,99", 7,
        "V021,9", 6, "V021,9,", 6, "V021,0", 6, "V021,1;V121,1;", 8);
    errors(new PermitOffice(), "V021,1;", 1);
    fine("V0299,99;", "V081,0;", "V0710,9;", "L0Nja11;V121,1;");
  }

  private static void promise04ErrorsOfConditions() {
    errors(base(), "C", 1, "C10a;", 1, "Ca", 1, "C0", 2, "C04a;", 2, "C0a", 2, "C00", 3, "C00A;", 3, "C00{;", 3,
        "C00`;", 3, "C001;", 3, "C00;", 3, "C00a", 4, "C00a:", 4, "C00ab", 4, "C00a;C10a;", 6,
        "C00a;C00a;C00a;C00a;C00a;C00a;C00a;", 33, "P0010aa11;C10a;C10a;C10a;C10a;C10a;C10a;C13z;", 43);
    fine("C03z;", "C00a;C00a;C00a;C00a;C00a;C00a;", "P0010aa11;C10a;");
    PermitOffice full = base();
    Desk.execute(full, "C00a;C00a;C00a;C00a;C00a;");
    errors(full, "C00b;C00b;", 8);
    Desk.execute(full, "C00b;");
    errors(full, "C00b;", 3, "C00", 3, "C00A;", 3, "C04b;", 2);
    full.fulfil(0, 'a');
    errors(full, "C00b;", 3);
    full.decide(0);
    PermitOffice refused = Desk.office("L0Naa99;P0090aa11;");
    refused.decide(0);
    Check.due(1, () -> Desk.execute(refused, "C00a;"));
    Check.due(1, () -> refused.permit(0, 12));
  }

  private static void promise04ErrorsOfRules() {
    errors(base(), "Z", 1, "Z401;", 1, "Za", 1, "Z0", 2, "Z071;", 2, "Z0a", 2, "Z00", 3, "Z00;", 3, "Z0010;", 3,
        "Z00a", 3, "Z02:;", 3, "Z02/;", 3, "Z021:;", 4, "Z021/;", 4, "Z009", 4, "Z009,", 4, "Z0000;", 4, "Z0110;", 3, "Z02100;", 5, "Z0299", 5, "Z0200;", 4,
        "Z030;", 3, "Z030", 3, "Z0310;", 3, "Z0310", 3, "Z03100;", 3, "Z0301;", 3, "Z040;", 3, "Z04100;", 5,
        "Z0564;", 3, "Z0599", 3, "Z0610;", 3, "Z031", 4, "Z031;Z4", 6);
    fine("Z000;", "Z009;", "Z110;", "Z119;", "Z220;", "Z2299;", "Z331;", "Z339;", "Z041;", "Z0499;", "Z050;", "Z0563;",
        "Z060;", "Z069;");
  }

  private static void promise04ErrorsOfTooMany() {
    PermitOffice o = Desk.office("L0Naa11;L0Nba11;L0Nca11;L0Nda11;L0Nea11;L0Nfa11;L0Nga11;");
    errors(o, "L0Nha11;L0Nia11;", 8, "L0Nha11;L", 8, "L0Nha11;Lx", 8, "L0Nga11;L", 7);
    Desk.execute(o, "L0Nha11;");
    errors(o, "L0Nia11;", 0, "L", 0, "L9", 0, "Z001;L0Nia11;", 5);
    Check.due(8, () -> o.count(0));
    Check.due(7, () -> o.cell(7, 0, 0));
    for (int i = 0; i < 9; i++) {
      Desk.execute(o, "P7010ha11;");
    }
    errors(o, "P8", 1, "P7010ha11;P7010ha11;", 10, "P7010ha11;P", 10);
    Desk.execute(o, "P7010ha11;");
    errors(o, "P7010ha11;", 0, "P", 0, "Px", 0);
    Check.due(10, () -> o.count(1));
    Desk.execute(o, "C93z;");
    Check.due(1, () -> o.permit(9, 12));
    for (int i = 0; i < 11; i++) {
      Desk.execute(o, "V721,1;");
    }
    errors(o, "V721,1;V721,1;", 7, "V721,1;V", 7);
    Desk.execute(o, "V782,3;");
    errors(o, "V721,1;", 0, "V", 0, "Vx", 0);
    Check.due(12, () -> o.count(2));
    Check.due(8, () -> o.variance(11, 1));
  }

  private static void promise04Position() {
    PermitOffice o = new PermitOffice();
    Check.due(-1, o::errorPosition);
    Check.thrown(Check.ILLEGAL, o::execute);
    Check.due(0, o::errorPosition);
    Desk.write(o, "Z0");
    Check.due(0, o::errorPosition);
    Desk.write(o, "01;");
    Check.due(1, o::execute);
    Check.due(-1, o::errorPosition);
    Desk.errorAt(4, o, "Z001:");
    o.save();
    o.undo();
    Check.due(4, o::errorPosition);
    o.restore();
    Check.due(4, o::errorPosition);
  }
}
