import java.util.NoSuchElementException;
import java.util.Objects;

/** Compares answers with those that are due, and ends a test with exit code 1 if one was wrong. */
final class Check {
  interface Call {
    Object answer();
  }

  static final Class<IllegalArgumentException> ILLEGAL = IllegalArgumentException.class;
  static final Class<IllegalStateException> STATE = IllegalStateException.class;
  static final Class<IndexOutOfBoundsException> INDEX = IndexOutOfBoundsException.class;
  static final Class<NoSuchElementException> NO_SUCH = NoSuchElementException.class;

  private static int checked = 0;
  private static int wrong = 0;

  private Check() {
  }

  static void due(Object want, Call call) {
    compare(String.valueOf(want), outcome(call));
  }

  static void thrown(Class<? extends RuntimeException> want, Call call) {
    compare(want.getSimpleName(), outcome(call));
  }

  static void same(String what, String want, String got) {
    checked++;
    if (!Objects.equals(want, got)) {
      wrong++;
      System.out.println(what + " answered " + got + ", due is " + want);
    }
  }

  static String outcome(Call call) {
    try {
      return String.valueOf(call.answer());
    } catch (RuntimeException e) {
      return e.getClass().getSimpleName();
    }
  }

  static boolean failed() {
    return wrong > 0;
  }

  static void end() {
    System.out.println(checked + " answers looked at, " + wrong + " wrong");
    if (wrong > 0 || checked == 0) {
      System.exit(1);
    }
  }

  private static void compare(String want, String got) {
    same(placeOfCall(), want, got);
  }

  /** The lines of the test, from the call outwards, as many calls are made by helpers of a test. */
  private static String placeOfCall() {
    StringBuilder place = new StringBuilder();
    for (StackTraceElement frame : Thread.currentThread().getStackTrace()) {
      String name = frame.getClassName();
      if (!name.equals("Check") && !name.equals("Desk") && !name.startsWith("java.") && !frame.getMethodName().equals("main")) {
        place.append(frame.getFileName()).append(':').append(frame.getLineNumber());
        place.append(" (").append(frame.getMethodName()).append(") ");
      }
    }
    return place.toString().trim();
  }
}
