/** Short ways to write texts to an office and to look at what comes of them. */
final class Desk {
  private Desk() {
  }

  static void write(PermitOffice office, String text) {
    for (int i = 0; i < text.length(); i += 4) {
      office.append(packed(text.substring(i, Math.min(i + 4, text.length()))));
    }
  }

  static int packed(String upToFour) {
    int packed = 0;
    for (int i = 0; i < upToFour.length(); i++) {
      packed = packed << 8 | upToFour.charAt(i);
    }
    return packed;
  }

  static int execute(PermitOffice office, String text) {
    write(office, text);
    return office.execute();
  }

  /** An office after the texts, none of which may have an error. */
  static PermitOffice office(String... texts) {
    PermitOffice office = new PermitOffice();
    for (String text : texts) {
      execute(office, text);
    }
    return office;
  }

  /** The text has its first error at the position, and changes nothing but the buffer. */
  static void errorAt(int position, PermitOffice office, String text) {
    write(office, text);
    String before = Sight.of(office);
    Check.thrown(IllegalArgumentException.class, office::execute);
    Check.due(position, office::errorPosition);
    Check.due(0, () -> office.count(7));
    Check.due(before, () -> Sight.of(office));
  }

  /** The call is refused with the exception, and changes nothing. */
  static void refused(Class<? extends RuntimeException> want, PermitOffice office, Check.Call call) {
    String before = Sight.of(office) + office.count(7) + " " + office.errorPosition();
    Check.thrown(want, call);
    Check.due(before, () -> Sight.of(office) + office.count(7) + " " + office.errorPosition());
  }
}
