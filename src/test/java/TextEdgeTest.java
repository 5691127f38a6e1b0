/** The edges that the document names for texts, and for promises 2 to 4: a test for each sentence. */
public final class TextEdgeTest {
  private static final String DIGITS = "0123456789";
  private static final String COLUMNS = "abcdefghijklmnopqrst";
  private static final String ROWS = "abcdefghijklmn";
  private static final String LETTERS = "abcdefghijklmnopqrstuvwxyz";
  private static final String[] BASE = {"L0Naa99;P0011cc22;"};

  public static void main(String[] args) {
    bytesThatAreZeroAreSkipped();
    bytesComeFromTheMostSignificantOne();
    eachByteIsFrom33To126();
    oneWrongByteRefusesAllFour();
    theBufferHoldsSixtyCharacters();
    theWrongByteComesBeforeTheFullBuffer();
    aTextOfSixtyCharactersIsExecuted();
    theBufferIsEmptyAfterwards();
    noCommandOfAWrongTextIsExecuted();
    aTextHasAtLeastOneCommand();
    aTextThatEndsTooEarly();
    positionIsOfTheLatestText();
    theFirstErrorIsReported();
    charactersOfLots();
    charactersOfPermits();
    charactersOfVariances();
    charactersOfConditions();
    charactersOfRules();
    numbersAreReadAsFarAsPossible();
    amountsAndDaysInRange();
    rulesInRange();
    lotsAndPermitsThatThereAre();
    thoseAddedByTheTextCount();
    atMostEightLots();
    atMostTenPermits();
    atMostTwelveVariances();
    atMostSixConditions();
    rectanglesThatFit();
    rectanglesAreReadAsAWhole();
    atMostThreeRectangles();
    lotsWithoutACellInCommon();
    lotsOfOneTextWithoutACellInCommon();
    Check.end();
  }

  private static void bytesThatAreZeroAreSkipped() {
    PermitOffice o = new PermitOffice();
    Check.due(0, () -> o.append(0));
    Check.due(1, () -> o.append('Z' << 24));
    Check.due(2, () -> o.append('0' << 16));
    Check.due(3, () -> o.append('0' << 8));
    Check.due(5, () -> o.append('1' << 24 | ';'));
    Check.due(1, o::execute);
    Check.due(1, () -> o.rule(0, 0));
    Check.due(0, () -> o.append(0));
    Desk.errorAt(0, o, "");
  }

  private static void bytesComeFromTheMostSignificantOne() {
    PermitOffice o = new PermitOffice();
    Check.due(4, () -> o.append('Z' << 24 | '1' << 16 | '0' << 8 | '9'));
    Check.due(5, () -> o.append(';'));
    Check.due(1, o::execute);
    Check.due(9, () -> o.rule(1, 0));
  }

  private static void eachByteIsFrom33To126() {
    for (int shift = 0; shift < 32; shift += 8) {
      for (int code = 1; code < 256; code++) {
        PermitOffice o = new PermitOffice();
        int packed = code << shift;
        boolean taken = code >= 33 && code <= 126;
        Check.due(taken ? "1" : "IllegalArgumentException", () -> o.append(packed));
        Check.due(taken ? 1 : 0, () -> o.count(7));
      }
    }
  }

  private static void oneWrongByteRefusesAllFour() {
    for (int shift = 0; shift < 32; shift += 8) {
      for (int code : new int[] {1, 32, 127, 128, 255}) {
        PermitOffice o = filled(2);
        int packed = Desk.packed("aaaa") & ~(255 << shift) | code << shift;
        Desk.refused(Check.ILLEGAL, o, () -> o.append(packed));
        Check.due(6, () -> o.append(Desk.packed("aaaa")));
      }
    }
  }

  private static PermitOffice filled(int characters) {
    PermitOffice o = new PermitOffice();
    for (int i = 0; i < characters; i++) {
      o.append('a');
    }
    return o;
  }

  private static void theBufferHoldsSixtyCharacters() {
    String four = "aaaa";
    for (int before = 55; before <= 60; before++) {
      for (int added = 0; added <= 4; added++) {
        PermitOffice o = filled(before);
        int packed = Desk.packed(four.substring(0, added));
        int after = before + added;
        if (after <= 60) {
          Check.due(after, () -> o.append(packed));
          Check.due(after, () -> o.count(7));
        } else {
          Desk.refused(Check.STATE, o, () -> o.append(packed));
        }
      }
    }
  }

  private static void theWrongByteComesBeforeTheFullBuffer() {
    for (int shift = 0; shift < 32; shift += 8) {
      int packed = Desk.packed("aaaa") & ~(255 << shift) | 32 << shift;
      PermitOffice o = filled(60);
      Desk.refused(Check.ILLEGAL, o, () -> o.append(packed));
      PermitOffice almost = filled(58);
      Desk.refused(Check.ILLEGAL, almost, () -> almost.append(packed));
    }
  }

  /** A refused append leaves no part of itself in the text. */
  private static void aTextOfSixtyCharactersIsExecuted() {
    PermitOffice o = new PermitOffice();
    Desk.write(o, "Z001;Z002;Z003;Z004;Z005;Z006;Z007;Z008;Z001;Z002;Z003;Z0");
    Check.due(57, () -> o.count(7));
    Desk.refused(Check.STATE, o, () -> o.append(Desk.packed("09;x")));
    Desk.refused(Check.ILLEGAL, o, () -> o.append(Desk.packed("09;") << 8 | 31));
    Check.due(60, () -> o.append(Desk.packed("09;")));
    Check.due(12, o::execute);
    Check.due(9, () -> o.rule(0, 0));
  }

  private static void theBufferIsEmptyAfterwards() {
    PermitOffice o = new PermitOffice();
    Desk.write(o, "Z001;");
    Check.due(1, o::execute);
    Check.due(0, () -> o.count(7));
    Check.thrown(Check.ILLEGAL, o::execute);
    Check.due(0, () -> o.count(7));
    Desk.write(o, "Z002;x");
    Check.thrown(Check.ILLEGAL, o::execute);
    Check.due(0, () -> o.count(7));
    Desk.write(o, "Z003;");
    Check.due(1, o::execute);
    Check.due(3, () -> o.rule(0, 0));
    PermitOffice full = filled(60);
    Check.thrown(Check.ILLEGAL, full::execute);
    Check.due(4, () -> full.append(Desk.packed("aaaa")));
  }

  private static void noCommandOfAWrongTextIsExecuted() {
    String[] commands = {"L2Eja11;", "P0010aa11;", "V021,9;", "C00a;", "Z009;"};
    PermitOffice o = Desk.office(BASE);
    StringBuilder all = new StringBuilder();
    for (String command : commands) {
      Desk.errorAt(command.length(), o, command + "x");
      all.append(command);
    }
    Desk.errorAt(all.length(), o, all + "x");
    Desk.errorAt(all.length() + 1, o, all + "L");
    Check.due(1, () -> o.count(6));
    Desk.write(o, all.toString());
    Check.due(5, o::execute);
  }

  private static void aTextHasAtLeastOneCommand() {
    PermitOffice o = new PermitOffice();
    Desk.errorAt(0, o, "");
    Check.thrown(Check.STATE, o::undo);
    Desk.write(o, "Z001;");
    Check.due(1, o::execute);
    Check.due(1, () -> o.count(6));
  }

  /** Each beginning of a good text is good if it ends with a command, and otherwise wrong at its length. */
  private static void aTextThatEndsTooEarly() {
    String text = "L1Nja11;P0123aa22bb11;V0350,99;C03z;Z1299;";
    for (int length = 0; length <= text.length(); length++) {
      PermitOffice o = Desk.office(BASE);
      String start = text.substring(0, length);
      if (start.endsWith(";")) {
        Desk.write(o, start);
        Check.due(start.replaceAll("[^;]", "").length(), o::execute);
        Check.due(-1, o::errorPosition);
      } else {
        Desk.errorAt(length, o, start);
      }
    }
    Desk.errorAt(60, new PermitOffice(), "Z001;Z002;Z003;Z004;Z005;Z006;Z007;Z008;Z001;Z002;Z003;Z0222");
    Desk.errorAt(59, new PermitOffice(), "Z001;Z002;Z003;Z004;Z005;Z006;Z007;Z008;Z001;Z002;Z003;Z002:");
  }

  private static void positionIsOfTheLatestText() {
    PermitOffice o = new PermitOffice();
    Check.due(-1, o::errorPosition);
    Desk.write(o, "x");
    Check.due(-1, o::errorPosition);
    Check.thrown(Check.ILLEGAL, o::execute);
    Check.due(0, o::errorPosition);
    Desk.write(o, "Z00x");
    Check.due(0, o::errorPosition);
    Check.thrown(Check.ILLEGAL, o::execute);
    Check.due(3, o::errorPosition);
    Desk.execute(o, "Z001;");
    Check.due(-1, o::errorPosition);
    Check.thrown(Check.ILLEGAL, o::execute);
    Check.due(0, o::errorPosition);
  }

  private static void theFirstErrorIsReported() {
    PermitOffice o = Desk.office(BASE);
    Desk.errorAt(1, o, "L4X");
    Desk.errorAt(3, o, "Z0310;Z4");
    Desk.errorAt(2, o, "P0600ua00");
    Desk.errorAt(5, o, "P0010ua00aa11aa11aa11");
    Desk.errorAt(1, o, "L7Naa99;");
    Desk.errorAt(7, o, "L0Naa11;L9");
  }

  /** Behind the start come all the characters, each for itself, and the text ends; the others are wrong there. */
  private static void next(String[] setUp, String start, String allowed) {
    next(setUp, start, allowed, "");
  }

  /** The late ones end a number that is out of range, and so are reported at its first digit, just before. */
  private static void next(String[] setUp, String start, String allowed, String late) {
    for (char c = 33; c <= 126; c++) {
      PermitOffice o = Desk.office(setUp);
      Desk.write(o, start + c);
      boolean ends = c == ';' && allowed.indexOf(c) >= 0;
      int length = start.length();
      int error = ends ? -1 : allowed.indexOf(c) >= 0 ? length + 1 : late.indexOf(c) >= 0 ? length - 1 : length;
      Check.same("execute of " + start + c, ends ? "1" : "IllegalArgumentException", Check.outcome(o::execute));
      Check.same("errorPosition of " + start + c, String.valueOf(error), Check.outcome(o::errorPosition));
    }
  }

  private static void charactersOfLots() {
    next(BASE, "", "LPVCZ");
    next(BASE, "L", "0123");
    next(BASE, "L3", "NESW");
    next(BASE, "L0E", COLUMNS);
    next(BASE, "L0Sj", ROWS);
    next(BASE, "L0Wja", "123456789");
    next(BASE, "L0Nja1", "123456789");
    next(BASE, "L0Nja11", COLUMNS + ";");
    next(BASE, "L0Nja11t", ROWS);
    next(BASE, "L0Nja11tn", "123456789");
    next(BASE, "L0Nja11tn11", COLUMNS + ";");
    next(BASE, "L0Nja11ja11ja11", ";");
    next(BASE, "L0Nja11;", "LPVCZ");
  }

  private static void charactersOfPermits() {
    next(BASE, "P", "0");
    next(BASE, "P0", "012345");
    next(BASE, "P05", "123456789");
    next(BASE, "P009", DIGITS);
    next(BASE, "P0019", COLUMNS);
    next(BASE, "P0010a", ROWS);
    next(BASE, "P0010aa", "123456789");
    next(BASE, "P0010aa9", "123456789");
    next(BASE, "P0010aa99", COLUMNS + ";");
    next(BASE, "P0010aa99aa99aa99", ";");
    next(BASE, "P0010aa99;", "LPVCZ");
  }

  private static void charactersOfVariances() {
    next(BASE, "V", "0");
    next(BASE, "V0", "2345678");
    next(BASE, "V02", "123456789");
    next(BASE, "V081", DIGITS + ",");
    next(BASE, "V089", DIGITS + ",");
    next(BASE, "V0210", ",");
    next(BASE, "V0299", ",");
    next(BASE, "V021,", DIGITS);
    next(BASE, "V021,0", ";");
    next(BASE, "V021,1", DIGITS + ";");
    next(BASE, "V021,9", DIGITS + ";");
    next(BASE, "V021,10", ";");
    next(BASE, "V021,99", ";");
    next(BASE, "V021,9;", "LPVCZ");
  }

  private static void charactersOfConditions() {
    next(BASE, "C", "0");
    next(BASE, "C0", "0123");
    next(BASE, "C00", LETTERS);
    next(BASE, "C03a", ";");
    next(BASE, "C03z", ";");
    next(BASE, "C03z;", "LPVCZ");
  }

  private static void charactersOfRules() {
    next(BASE, "Z", "0123");
    next(BASE, "Z3", "0123456");
    for (char rule = '0'; rule <= '6'; rule++) {
      next(BASE, "Z0" + rule, rule == '3' || rule == '4' ? "123456789" : DIGITS);
      boolean twoDigits = rule == '2' || rule == '4' || rule == '5';
      next(BASE, "Z0" + rule + 1, twoDigits ? DIGITS + ";" : ";", twoDigits ? "" : DIGITS);
    }
    next(BASE, "Z000", ";");
    next(BASE, "Z009", ";", DIGITS);
    next(BASE, "Z039", ";", DIGITS);
    next(BASE, "Z020", ";");
    next(BASE, "Z029", DIGITS + ";");
    next(BASE, "Z0299", ";");
    next(BASE, "Z0499", ";");
    next(BASE, "Z050", ";");
    next(BASE, "Z056", "0123;", "456789");
    next(BASE, "Z057", ";", DIGITS);
    next(BASE, "Z0563", ";");
    next(BASE, "Z000;", "LPVCZ");
  }

  /** A number ends behind a 0 that it begins with, and behind two digits; its range is looked at before what follows. */
  private static void numbersAreReadAsFarAsPossible() {
    PermitOffice o = Desk.office(BASE);
    Desk.errorAt(4, o, "Z0205;");
    Desk.errorAt(4, o, "Z0200;");
    Desk.errorAt(3, o, "Z0301;");
    Desk.errorAt(3, o, "Z0400;");
    Desk.errorAt(5, o, "Z02100;");
    Desk.errorAt(5, o, "Z02999;");
    Desk.errorAt(3, o, "Z05999;");
    Desk.errorAt(3, o, "Z03100;");
    Desk.errorAt(3, o, "Z0364x");
    Desk.errorAt(4, o, "Z032/");
    Desk.errorAt(4, o, "Z032:");
    Desk.errorAt(3, o, "V0201,1;");
    Desk.errorAt(5, o, "V02100,1;");
    Desk.errorAt(6, o, "V021,01;");
    Desk.errorAt(7, o, "V021,100;");
  }

  private static void amountsAndDaysInRange() {
    for (int value = 0; value <= 99; value++) {
      PermitOffice o = Desk.office(BASE);
      String amount = "V02" + value + ",1;";
      if (value == 0) {
        Desk.errorAt(3, o, amount);
      } else {
        Check.due(1, () -> Desk.execute(o, amount));
        int want = value;
        Check.due(want, () -> o.variance(0, 2));
      }
      PermitOffice later = Desk.office(BASE);
      later.pass(3);
      String days = "V021," + value + ";";
      int lastDay = value + 3;
      Check.due(1, () -> Desk.execute(later, days));
      Check.due(lastDay, () -> later.variance(0, 3));
    }
  }

  private static void rulesInRange() {
    int[] least = {0, 0, 0, 1, 1, 0, 0};
    int[] greatest = {9, 9, 99, 9, 99, 63, 9};
    for (int i = 0; i < 28 * 100; i++) {
      PermitOffice o = Desk.office(BASE);
      int zone = i / 700;
      int rule = i / 100 % 7;
      int value = i % 100;
      String text = "Z" + zone + rule + value + ";";
      if (value < least[rule] || value > greatest[rule]) {
        Desk.write(o, text);
        int before = o.rule(zone, rule);
        Check.thrown(Check.ILLEGAL, o::execute);
        Check.due(3, o::errorPosition);
        Check.due(before, () -> o.rule(zone, rule));
      } else {
        Check.due(1, () -> Desk.execute(o, text));
        Check.due(value, () -> o.rule(zone, rule));
      }
    }
  }

  private static void lotsAndPermitsThatThereAre() {
    PermitOffice empty = new PermitOffice();
    for (String text : new String[] {"P0010aa11;", "V021,1;", "C00a;"}) {
      Desk.errorAt(1, empty, text);
    }
    String[] setUp = new String[18];
    for (int i = 0; i < 8; i++) {
      next(Desk.firstOf(setUp, i), "P", DIGITS.substring(0, i));
      next(Desk.firstOf(setUp, i), "V", DIGITS.substring(0, i));
      setUp[i] = "L0N" + COLUMNS.charAt(i) + "a11;";
    }
    for (int i = 8; i < 18; i++) {
      next(Desk.firstOf(setUp, i), "C", DIGITS.substring(0, i - 8));
      setUp[i] = "P7010ha11;";
    }
    next(Desk.firstOf(setUp, 17), "P", "01234567");
    next(setUp, "V", "01234567");
    next(setUp, "C", DIGITS);
    Desk.errorAt(1, Desk.office(BASE), "V221,1;");
    Desk.errorAt(1, Desk.office(BASE), "P1110aa11;");
    Desk.errorAt(1, Desk.office(BASE), "C10a;");
  }

  private static void thoseAddedByTheTextCount() {
    PermitOffice o = new PermitOffice();
    Desk.errorAt(1, o, "P0010aa11;L0Naa11;");
    Desk.errorAt(1, o, "V021,1;L0Naa11;");
    Desk.errorAt(9, o, "L0Naa11;C00a;P0010aa11;");
    Desk.errorAt(9, o, "L0Naa11;P1010aa11;");
    Desk.errorAt(9, o, "L0Naa11;V121,1;");
    Desk.errorAt(19, o, "L0Naa11;P0010aa11;C10a;");
    Desk.write(o, "L0Naa11;P0010aa11;V021,1;C00a;L0Nba11;P1010aa11;C10a;V121,1;");
    Check.due(8, o::execute);
    Check.due(1, () -> o.permit(1, 12));
    Desk.errorAt(1, o, "C20a;");
  }

  private static PermitOffice withLots(int lots) {
    PermitOffice o = new PermitOffice();
    for (int i = 0; i < lots; i++) {
      Desk.execute(o, "L0N" + COLUMNS.charAt(i) + "a11;");
    }
    return o;
  }

  private static void atMostEightLots() {
    PermitOffice o = withLots(7);
    Desk.errorAt(8, o, "L0Nha11;L0Nia11;");
    Desk.errorAt(8, o, "L0Nha11;L");
    Check.due(1, () -> Desk.execute(o, "L0Nha11;"));
    for (String more : new String[] {"L0Nia11;", "L", "Lx", "L9", "L0Naa11;", "L0Nia11", "L;"}) {
      Desk.errorAt(0, o, more);
      Desk.errorAt(5, o, "Z001;" + more);
    }
    Check.due(8, () -> o.count(0));
    Check.due(1, () -> o.lot(7, 2));
    Desk.refused(Check.INDEX, o, () -> o.lot(8, 2));
  }

  private static void atMostTenPermits() {
    PermitOffice o = withLots(1);
    for (int i = 0; i < 9; i++) {
      Desk.execute(o, "P0010aa11;");
    }
    Desk.errorAt(10, o, "P0010aa11;P0010aa11;");
    Desk.errorAt(10, o, "P0010aa11;P");
    Check.due(1, () -> Desk.execute(o, "P0529aa11;"));
    for (String more : new String[] {"P0010aa11;", "P", "Px", "P9", "P0010aa11", "P;"}) {
      Desk.errorAt(0, o, more);
      Desk.errorAt(5, o, "Z001;" + more);
    }
    Check.due(10, () -> o.count(1));
    Check.due(5, () -> o.permit(9, 2));
    Desk.refused(Check.INDEX, o, () -> o.permit(10, 2));
  }

  private static void atMostTwelveVariances() {
    PermitOffice o = withLots(1);
    for (int i = 0; i < 11; i++) {
      Desk.execute(o, "V021,1;");
    }
    Desk.errorAt(7, o, "V021,1;V021,1;");
    Desk.errorAt(7, o, "V021,1;V");
    Check.due(1, () -> Desk.execute(o, "V087,1;"));
    for (String more : new String[] {"V021,1;", "V", "Vx", "V9", "V020", "V;"}) {
      Desk.errorAt(0, o, more);
      Desk.errorAt(5, o, "Z001;" + more);
    }
    Check.due(12, () -> o.count(2));
    Check.due(7, () -> o.variance(11, 2));
    Desk.refused(Check.INDEX, o, () -> o.variance(12, 2));
  }

  private static void atMostSixConditions() {
    PermitOffice o = Desk.office("L0Naa99;P0011cc22;P0011ee11;", "C00a;C01b;C02c;C03d;C00e;");
    Desk.errorAt(8, o, "C00f;C00g;");
    Desk.errorAt(8, o, "C00f;C00");
    Desk.errorAt(8, o, "C00f;C00;");
    Check.due(1, () -> Desk.execute(o, "C00f;"));
    Desk.errorAt(3, o, "C00g;");
    Desk.errorAt(3, o, "C03z");
    Desk.errorAt(2, o, "C04z;");
    Check.due(5, () -> o.fulfil(0, 'a'));
    Desk.errorAt(3, o, "C00a;");
    Check.due(6, () -> o.permit(0, 12));
    Check.due(102, () -> o.condition(0, 5, 1));
    Desk.refused(Check.INDEX, o, () -> o.condition(0, 6, 1));
    Desk.errorAt(33, o, "C10a;C10a;C10a;C10a;C10a;C10a;C10a;");
    Desk.errorAt(43, o, "P0010aa11;C20a;C20a;C20a;C20a;C20a;C20a;C20a;");
    Check.due(6, () -> Desk.execute(o, "C10a;C10a;C10a;C10a;C10a;C10a;"));
  }

  /** Each place and size in one direction, as each of the three rectangles of an area. */
  private static void rectanglesThatFit() {
    for (int place = 0; place < 20; place++) {
      for (int size = 1; size <= 9; size++) {
        fits(place + size <= 20, COLUMNS.charAt(place) + "n" + size + "1");
        if (place < 14) {
          fits(place + size <= 14, "t" + ROWS.charAt(place) + "1" + size);
        }
      }
    }
  }

  private static void fits(boolean fits, String rectangle) {
    for (int before = 0; before < 3; before++) {
      PermitOffice o = Desk.office(BASE);
      String start = "P0010" + "aa11aa11".substring(0, 4 * before);
      Desk.write(o, start + rectangle + ";");
      Check.due(fits ? "1" : "IllegalArgumentException", o::execute);
      Check.due(fits ? -1 : start.length(), o::errorPosition);
    }
  }

  private static void rectanglesAreReadAsAWhole() {
    PermitOffice o = Desk.office(BASE);
    Desk.errorAt(6, o, "L0Nta2");
    Desk.errorAt(6, o, "L0Nta20;");
    Desk.errorAt(6, o, "L0Nta2;");
    Desk.errorAt(3, o, "L0Nta21");
    Desk.errorAt(3, o, "L0Nta21x");
    Desk.errorAt(5, o, "L0Ntn:9");
    Desk.errorAt(3, o, "L0Ntn99;");
    Desk.errorAt(4, o, "L0Nj11;");
    Desk.errorAt(10, o, "L0Nja11ta2");
    Desk.errorAt(7, o, "L0Nja11ta21");
  }

  private static void atMostThreeRectangles() {
    PermitOffice o = Desk.office(BASE);
    Desk.errorAt(15, o, "L0Nja11ka11la11ma11;");
    Desk.errorAt(15, o, "L0Nja11ka11la11j");
    Desk.errorAt(15, o, "L0Nja11ka11la11tn99;");
    Desk.errorAt(17, o, "P0010aa11aa11aa11aa11;");
    Desk.errorAt(3, o, "L0N;");
    Desk.errorAt(5, o, "P0010;");
    Check.due(1, () -> Desk.execute(o, "L0Nja11la11na11;"));
    Check.due(1, () -> Desk.execute(o, "P1010aa11ca11ea11;"));
    Check.due(3, () -> o.lot(1, 2));
    Check.due(3, () -> o.permit(1, 5));
  }

  /** Lots may touch one another, and lie in holes and corners of one another, but share no cell. */
  private static void lotsWithoutACellInCommon() {
    PermitOffice o = Desk.office("L0Ncc55;");
    for (String rectangle : new String[] {"cc11", "gg11", "gc11", "cg11", "ee11", "aa33", "ga33", "ag33", "gg33", "aa99"}) {
      Desk.errorAt(7, o, "L0N" + rectangle + ";");
      Desk.errorAt(15, o, "L0Nka11ma11" + rectangle + ";");
      Desk.errorAt(7, o, "L0N" + rectangle + "u");
      Desk.errorAt(7, o, "L0N" + rectangle);
    }
    for (String rectangle : new String[] {"bc15", "hc15", "cb51", "ch51", "bb11", "hb11", "bh11"}) {
      Check.due(1, () -> Desk.execute(o, "L0N" + rectangle + ";"));
    }
    PermitOffice hole = Desk.office("L0Naa31aa13ca13;");
    Check.due(1, () -> Desk.execute(hole, "L0Nbb12;"));
    Check.due(2, () -> hole.lot(1, 2));
  }

  private static void lotsOfOneTextWithoutACellInCommon() {
    PermitOffice o = new PermitOffice();
    Desk.errorAt(15, o, "L0Naa22;L0Nbb11;");
    Desk.errorAt(23, o, "L0Naa22;L0Nca11;L0Nba21;");
    Desk.errorAt(15, o, "L0Naa22;L0Nbb11x");
    Check.due(2, () -> Desk.execute(o, "L0Naa22;L0Nca22;"));
    Desk.errorAt(7, o, "L0Nba21;");
    Check.due(1, () -> Desk.execute(o, "L0Nea22ea22ea11;"));
    Check.due(4, () -> o.lot(2, 2));
  }
}
