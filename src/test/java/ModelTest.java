import java.util.Random;

/** All promises: long runs of calls with fixed seeds, ordinary and wrong, each answered as PlainOffice answers it. */
public final class ModelTest {
  private static final int RUNS = 150;
  private static final int CALLS = 450;
  private static final int[] WILD = {Integer.MIN_VALUE, Integer.MAX_VALUE, -2, -1, 10, 15, 20, 64, 1000};

  private final long seed;
  private final Random random;
  private final PermitOffice office = new PermitOffice();
  private final PlainOffice plain = new PlainOffice();
  private int call = 0;

  private ModelTest(long seed) {
    this.seed = seed;
    this.random = new Random(seed);
  }

  public static void main(String[] args) {
    for (int i = 0; i < RUNS && !Check.failed(); i++) {
      new ModelTest(i).run();
    }
    Check.end();
  }

  private void run() {
    for (call = 0; call < CALLS && !Check.failed(); call++) {
      if (random.nextInt(4) == 0) {
        text();
      } else {
        ask(random.nextInt(45), number(14), number(14), number(8));
      }
    }
    everything();
  }

  private int below(int bound) {
    return random.nextInt(bound);
  }

  private int number(int bound) {
    return below(60) == 0 ? WILD[below(WILD.length)] : Math.min(below(bound), below(bound));
  }

  private void same(String what, Check.Call real, Check.Call due) {
    Check.same("seed " + seed + ", call " + call + ": " + what, Check.outcome(due), Check.outcome(real));
  }

  private void text() {
    StringBuilder text = new StringBuilder();
    int commands = 1 + below(5);
    for (int i = 0; i < commands; i++) {
      text.append(command());
    }
    if (below(8) == 0) {
      text.setCharAt(below(text.length()), (char) (below(3) == 0 ? 33 + below(94) : "LPVCZNESW0123459abjt;,".charAt(below(22))));
    }
    if (below(16) == 0) {
      text.setLength(below(text.length()));
    }
    for (int i = 0; i < text.length(); i += 4) {
      int packed = Desk.packed(text.substring(i, Math.min(i + 4, text.length())));
      same("append", () -> office.append(packed), () -> plain.append(packed));
    }
    same("execute " + text, office::execute, plain::execute);
    same("errorPosition of " + text, office::errorPosition, plain::errorPosition);
  }

  private String command() {
    int lots = Math.max(1, office.count(0));
    int permits = Math.max(1, office.count(1));
    switch (lots < 3 ? below(6) : 1 + below(9)) {
      case 0: return "L" + below(4) + "NESW".charAt(below(4)) + area(9) + ";";
      case 1:
      case 2:
      case 3: return "P" + below(lots) + below(6) + (1 + below(3)) + below(9) + area(below(2) == 0 ? 9 : 3) + ";";
      case 4:
      case 5: return "V" + below(lots) + (2 + below(7)) + (1 + below(below(2) == 0 ? 99 : 9)) + "," + below(99) + ";";
      case 6: return "C" + below(permits) + below(4) + "abc".charAt(below(3)) + ";";
      case 7: return "L" + below(4) + "NESW".charAt(below(4)) + area(4) + ";";
      default: return "Z" + below(4) + below(7) + below(below(2) == 0 ? 99 : 10) + ";";
    }
  }

  private String area(int most) {
    StringBuilder area = new StringBuilder();
    int rectangles = below(4) == 0 ? 1 + below(3) : 1;
    for (int i = 0; i < rectangles; i++) {
      int width = 1 + below(most);
      int height = 1 + below(most);
      int extra = below(30) == 0 ? 1 : 0;
      area.append((char) ('a' + below(21 - width + extra))).append((char) ('a' + below(15 - height + extra)));
      area.append(width).append(height);
    }
    return area.toString();
  }

  private void ask(int method, int a, int b, int c) {
    String args = " of " + a + ", " + b + ", " + c;
    switch (method) {
      case 0: same("append" + args, () -> office.append(a << b), () -> plain.append(a << b)); break;
      case 1: same("errorPosition", office::errorPosition, plain::errorPosition); break;
      case 2: same("rule" + args, () -> office.rule(a, b), () -> plain.rule(a, b)); break;
      case 3: same("lot" + args, () -> office.lot(a, c), () -> plain.lot(a, c)); break;
      case 4: same("rezone" + args, () -> office.rezone(a, b), () -> plain.rezone(a, b)); break;
      case 5: same("cell" + args, () -> office.cell(a, b, c), () -> plain.cell(a, b, c)); break;
      case 6: same("largest" + args, () -> office.largest(a), () -> plain.largest(a)); break;
      case 7: same("permit" + args, () -> office.permit(a, b), () -> plain.permit(a, b)); break;
      case 8: same("findings" + args, () -> office.findings(a, b > 3), () -> plain.findings(a, b > 3)); break;
      case 9: same("finding" + args, () -> office.finding(a, b, c), () -> plain.finding(a, b, c)); break;
      case 10: same("worst", office::worst, plain::worst); break;
      case 11: same("reason" + args, () -> office.reason(a), () -> plain.reason(a)); break;
      case 12: same("urgent" + args, () -> office.urgent(a), () -> plain.urgent(a)); break;
      case 13: same("variance" + args, () -> office.variance(a, c), () -> plain.variance(a, c)); break;
      case 14: same("needed" + args, () -> office.needed(a, b), () -> plain.needed(a, b)); break;
      case 15: same("condition" + args, () -> office.condition(a, b, c), () -> plain.condition(a, b, c)); break;
      case 16: same("account" + args, () -> office.account(a - 1, b), () -> plain.account(a - 1, b)); break;
      case 17: same("meanFloorArea", office::meanFloorArea, plain::meanFloorArea); break;
      case 18: same("count" + args, () -> office.count(a + b), () -> plain.count(a + b)); break;
      default: change(method, a, b); break;
    }
  }

  private void change(int method, int a, int b) {
    String args = " of " + a + ", " + b;
    switch (method) {
      case 19: same("revoke" + args, () -> office.revoke(a), () -> plain.revoke(a)); break;
      case 20: same("save", office::save, plain::save); break;
      case 21:
        if (b > 8) {
          same("restore", office::restore, plain::restore);
        }
        break;
      case 22: same("undo", office::undo, plain::undo); break;
      case 23:
      case 24: same("fulfil" + args, () -> office.fulfil(a, 97 + b), () -> plain.fulfil(a, 97 + b)); break;
      case 25:
      case 26: same("reinstate" + args, () -> office.reinstate(a), () -> plain.reinstate(a)); break;
      case 27: same("extend" + args, () -> office.extend(a), () -> plain.extend(a)); break;
      case 28: same("pass" + args, () -> office.pass(a + b), () -> plain.pass(a + b)); break;
      case 29: everything(); break;
      case 30:
      case 31:
      case 32:
      case 33: same("decide" + args, () -> office.decide(a), () -> plain.decide(a)); break;
      default: same("inspect" + args, () -> office.inspect(a), () -> plain.inspect(a)); break;
    }
  }

  /** Asks for all that can be seen, one step beyond each end included. */
  private void everything() {
    for (int method = 1; method <= 18; method++) {
      int arguments = "0021130223101223202".charAt(method) - '0';
      for (int a = -1; a <= 14; a++) {
        for (int b = -1; b <= (arguments > 1 ? 14 : -1); b++) {
          for (int c = -1; c <= (arguments > 2 || method == 3 || method == 13 ? 6 : -1); c++) {
            ask(method, a, b, c);
          }
        }
      }
    }
  }
}
