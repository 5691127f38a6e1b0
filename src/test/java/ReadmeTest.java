import java.io.IOException;
import java.lang.reflect.InvocationTargetException;
import java.lang.reflect.Method;
import java.nio.file.Files;
import java.nio.file.Path;
import java.util.regex.Matcher;
import java.util.regex.Pattern;

/** README.md: each call that it shows answers what it shows; all blocks together are one run on one office. */
public final class ReadmeTest {
  private static final Pattern WRITE = Pattern.compile("Desk\\.write\\(office, \"(\\S+)\"\\);");
  private static final Pattern CALL = Pattern.compile("office\\.(\\w+)\\(([^)]*)\\); +// (\\w+)(: .*)?");
  private static final String NEW = "PermitOffice office = new PermitOffice();";

  private PermitOffice office = null;
  private int calls = 0;

  public static void main(String[] args) throws IOException {
    new ReadmeTest().run();
    Check.end();
  }

  private void run() throws IOException {
    boolean inside = false;
    int number = 0;
    for (String line : Files.readAllLines(Path.of("README.md"))) {
      number++;
      if (line.startsWith("```")) {
        inside = line.equals("```java");
      } else if (inside) {
        Check.same("README.md, line " + number + ": " + line, "as shown", looked(line));
      }
    }
    Check.same("README.md shows calls", "true", String.valueOf(calls > 0));
  }

  private String looked(String line) {
    Matcher write = WRITE.matcher(line);
    Matcher call = CALL.matcher(line);
    if (line.equals(NEW)) {
      office = new PermitOffice();
    } else if (write.matches()) {
      Desk.write(office, write.group(1));
    } else if (call.matches()) {
      calls++;
      String answer = answer(call.group(1), call.group(2).isEmpty() ? new String[0] : call.group(2).split(", "));
      return answer.equals(call.group(3)) ? "as shown" : answer;
    } else {
      return "not understood";
    }
    return "as shown";
  }

  private String answer(String name, String[] arguments) {
    for (Method method : PermitOffice.class.getMethods()) {
      if (method.getName().equals(name) && method.getParameterCount() == arguments.length) {
        return answer(method, arguments);
      }
    }
    return "no such method";
  }

  private String answer(Method method, String[] arguments) {
    Object[] values = new Object[arguments.length];
    for (int i = 0; i < values.length; i++) {
      values[i] = value(arguments[i]);
    }
    try {
      return String.valueOf(method.invoke(office, values));
    } catch (InvocationTargetException e) {
      return e.getCause().getClass().getSimpleName();
    } catch (IllegalAccessException e) {
      return "not to be called";
    }
  }

  private static Object value(String argument) {
    if (argument.equals("true") || argument.equals("false")) {
      return argument.equals("true");
    }
    return argument.startsWith("'") ? (int) argument.charAt(1) : (int) Integer.decode(argument);
  }
}
