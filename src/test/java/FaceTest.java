import java.io.IOException;
import java.lang.reflect.Constructor;
import java.lang.reflect.Executable;
import java.lang.reflect.Field;
import java.lang.reflect.Method;
import java.lang.reflect.Modifier;
import java.nio.file.Files;
import java.nio.file.Path;
import java.util.ArrayList;
import java.util.List;
import java.util.Set;
import java.util.TreeSet;

/** "The public face" of the document, line by line, and rule 1 of LANGUAGE.md: nothing else is seen from outside. */
public final class FaceTest {
  private static final Class<?> OFFICE = PermitOffice.class;

  public static void main(String[] args) throws IOException {
    theFaceIsThatOfTheDocument();
    nothingElseIsSeen();
    noPrivateMethodBearsAPublicName();
    Check.end();
  }

  private static void theFaceIsThatOfTheDocument() throws IOException {
    Set<String> want = faceOfTheDocument();
    Set<String> got = faceOfTheClass();
    Check.same("the number of members of the face", "31", String.valueOf(want.size()));
    Check.same("the face", String.join("\n", want), String.join("\n", got));
    Check.same("the modifiers of the class", "public final", Modifier.toString(OFFICE.getModifiers()));
  }

  private static Set<String> faceOfTheDocument() throws IOException {
    Set<String> face = new TreeSet<>();
    boolean inside = false;
    for (String line : Files.readAllLines(Path.of("../shared/DOC.md"))) {
      if (line.equals("}")) {
        return face;
      }
      if (inside) {
        face.add(line.trim().replace(";", "").replaceAll("\\b(int|boolean) \\w+(?=[,)])", "$1"));
      }
      inside |= line.startsWith("public final class PermitOffice");
    }
    return face;
  }

  private static Set<String> faceOfTheClass() {
    Set<String> face = new TreeSet<>();
    for (Constructor<?> constructor : OFFICE.getDeclaredConstructors()) {
      face.add("public " + OFFICE.getSimpleName() + described(constructor));
    }
    for (Method method : OFFICE.getDeclaredMethods()) {
      if (!Modifier.isPrivate(method.getModifiers())) {
        String kind = Modifier.toString(method.getModifiers()) + " " + method.getReturnType().getSimpleName();
        face.add(kind + " " + method.getName() + described(method));
      }
    }
    return face;
  }

  private static String described(Executable executable) {
    String thrown = names(executable.getExceptionTypes());
    return "(" + names(executable.getParameterTypes()) + ")" + (thrown.isEmpty() ? "" : " throws " + thrown);
  }

  private static String names(Class<?>[] types) {
    List<String> names = new ArrayList<>();
    for (Class<?> type : types) {
      names.add(type.getSimpleName());
    }
    return String.join(", ", names);
  }

  private static void nothingElseIsSeen() {
    for (Field field : OFFICE.getDeclaredFields()) {
      Check.same("private is " + field, "true", String.valueOf(Modifier.isPrivate(field.getModifiers())));
    }
    for (Class<?> inner : OFFICE.getDeclaredClasses()) {
      int modifiers = inner.getModifiers();
      boolean seen = Modifier.isPublic(modifiers) || Modifier.isProtected(modifiers);
      Check.same("not seen is " + inner, "true", String.valueOf(!seen));
      Check.same("static is " + inner, "true", String.valueOf(Modifier.isStatic(modifiers)));
    }
    Check.same("the class above", "class java.lang.Object", String.valueOf(OFFICE.getSuperclass()));
    Check.same("the interfaces", "0", String.valueOf(OFFICE.getInterfaces().length));
  }

  private static void noPrivateMethodBearsAPublicName() {
    Set<String> names = new TreeSet<>();
    for (Method method : OFFICE.getMethods()) {
      names.add(method.getName());
    }
    List<Class<?>> classes = new ArrayList<>(List.of(OFFICE.getDeclaredClasses()));
    classes.add(OFFICE);
    for (Class<?> each : classes) {
      for (Method method : each.getDeclaredMethods()) {
        boolean taken = Modifier.isPrivate(method.getModifiers()) && names.contains(method.getName());
        Check.same("a name of its own has " + method, "true", String.valueOf(!taken));
      }
    }
  }
}
