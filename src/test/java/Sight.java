/** All that can be seen of an office, but for the buffer and the error position, as one text. */
final class Sight {
  private final PermitOffice office;
  private final StringBuilder seen = new StringBuilder();

  private Sight(PermitOffice office) {
    this.office = office;
  }

  static String of(PermitOffice office) {
    Sight sight = new Sight(office);
    sight.town();
    sight.lots();
    sight.permits();
    sight.variances();
    return sight.seen.toString();
  }

  private void see(Check.Call call) {
    seen.append(Check.outcome(call)).append(' ');
  }

  private void town() {
    for (int what : new int[] {0, 1, 2, 3, 4, 5, 6, 10, 11, 12, 13, 14, 15, 16}) {
      see(() -> office.count(what));
    }
    for (int i = 0; i < 28; i++) {
      int rule = i;
      see(() -> office.rule(rule / 7, rule % 7));
    }
    for (int i = 0; i < 280 * 2; i++) {
      int cell = i;
      see(() -> office.cell(cell % 20, cell / 20 % 14, cell / 280));
    }
    see(office::worst);
    see(office::meanFloorArea);
  }

  private void lots() {
    for (int i = 0; i < office.count(0); i++) {
      int lot = i;
      for (int k = 0; k < 6; k++) {
        int what = k;
        see(() -> office.lot(lot, what));
      }
      see(() -> office.largest(lot));
    }
  }

  private void permits() {
    for (int i = 0; i < office.count(1); i++) {
      int permit = i;
      for (int k = 0; k < 13; k++) {
        int what = k;
        see(() -> office.permit(permit, what));
      }
      for (int k = 0; k < 27; k++) {
        int what = k;
        see(() -> office.finding(permit, what / 3, what % 3));
      }
      for (int k = 0; k < 18; k++) {
        int what = k;
        see(() -> office.condition(permit, what / 3, what % 3));
      }
      see(() -> office.findings(permit, false));
      see(() -> office.findings(permit, true));
      see(() -> office.reason(permit));
      see(() -> office.account(permit, 0));
      see(() -> office.account(permit, 1));
      see(() -> office.urgent(permit));
    }
  }

  private void variances() {
    for (int i = 0; i < office.count(2); i++) {
      int variance = i;
      for (int k = 0; k < 6; k++) {
        int what = k;
        see(() -> office.variance(variance, what));
      }
    }
  }
}
