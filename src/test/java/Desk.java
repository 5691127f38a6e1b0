import java.util.Arrays;

/** Short ways to write texts to an office and to look at what comes of them. */
final class Desk {
  /** Numbers that are no lot, permit, kind or the like; some would look like 0 if they lost their upper bits. */
  static final int[] WILD = {Integer.MIN_VALUE, -2, 32, 64, 100, 256, 1 << 16, Integer.MAX_VALUE};

  private Desk() {
  }

  static void write(PermitOffice office, String text) {
    for (int i = 0; i < text.length(); i += 4) {
      office.append(packed(text.substring(i, Math.min(i + 4, text.length()))));
    }
  }

  static int packed(String upToFour) {
    int packed = 0;
    for (int i = 0; i < upToFour.length(); i++) {
      packed = packed << 8 | upToFour.charAt(i);
    }
    return packed;
  }

  static int execute(PermitOffice office, String text) {
    write(office, text);
    return office.execute();
  }

  /** An office after the texts, none of which may have an error. */
  static PermitOffice office(String... texts) {
    PermitOffice office = new PermitOffice();
    for (String text : texts) {
      execute(office, text);
    }
    return office;
  }

  static String[] firstOf(String[] texts, int number) {
    return Arrays.copyOf(texts, number);
  }

  /** The text has its first error at the position, and changes nothing but the buffer. */
  static void errorAt(int position, PermitOffice office, String text) {
    write(office, text);
    String before = Sight.of(office);
    Check.thrown(Check.ILLEGAL, office::execute);
    Check.due(position, office::errorPosition);
    Check.due(0, () -> office.count(7));
    Check.due(before, () -> Sight.of(office));
  }

  /** The call is refused with the exception, and changes nothing. */
  static void refused(Class<? extends RuntimeException> want, PermitOffice office, Check.Call call) {
    String before = Sight.of(office) + office.count(7) + " " + office.errorPosition();
    Check.thrown(want, call);
    Check.due(before, () -> Sight.of(office) + office.count(7) + " " + office.errorPosition());
  }

  static boolean stands(int status) {
    return status == 2 || status == 3 || status == 6;
  }

  /** An office for each status that its permit 0 can have, in the order of the statuses. */
  static PermitOffice[] officesByStatus() {
    PermitOffice[] offices = new PermitOffice[7];
    for (int status = 0; status < 7; status++) {
      PermitOffice o = office("L0Naa99;P0011ee11;");
      offices[status] = o;
      if (status == 1) {
        execute(o, "Z050;");
      } else if (status == 6) {
        execute(o, "C00a;");
      }
      if (status != 0) {
        o.decide(0);
      }
      for (int i = 0; i < (status == 3 ? 4 : status == 6 ? 3 : 0); i++) {
        o.inspect(0);
      }
      if (status == 4) {
        o.pass(31);
      } else if (status == 5) {
        o.revoke(0);
      }
      int want = status;
      Check.due(want, () -> o.permit(0, 0));
    }
    return offices;
  }
}
