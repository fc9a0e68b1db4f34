import java.lang.reflect.Constructor;
import java.lang.reflect.Field;
import java.lang.reflect.Method;
import java.lang.reflect.Modifier;
import java.util.Arrays;
import java.util.TreeSet;

/** The public face is the document's, and nothing else of the class can be seen. */
public final class FaceTest {
  private static final String[] METHODS = {
    "int record(boolean, int, int, int)", "int choice(int, int, int)", "int box(int)",
    "int tie(int, int)", "int row(int)", "int about(int, int)", "int number(long)",
    "int make(int, int)", "int gather(int, int)", "int open()", "int apart()", "int drop()",
    "int store(int)", "int load(int)", "int set(int, int)", "int swap(int, int)",
    "int push(int, int)", "int pop(int, int)", "int enter(int)", "int leave(boolean)",
    "int fail()", "int shape(int, int)", "long look(int, int)", "int state(int, int)",
    "long out(int)", "int count(int)",
  };

  public static void main(String[] args) {
    Due.due("NONE", CellYard.NONE, -1);
    Due.due("FULL", CellYard.FULL, -2);
    Due.due("the class is public and final", CellYard.class.getModifiers() & (Modifier.PUBLIC | Modifier.FINAL),
        Modifier.PUBLIC | Modifier.FINAL);
    methods();
    fieldsAndConstructors();
    Due.finish();
  }

  private static void methods() {
    TreeSet<String> seen = new TreeSet<>();
    TreeSet<String> names = new TreeSet<>();
    for (Method m : CellYard.class.getDeclaredMethods()) {
      if (!Modifier.isPrivate(m.getModifiers()) && !m.isSynthetic()) {
        Due.due(m + " is public and no static one", m.getModifiers(), Modifier.PUBLIC);
        seen.add(told(m));
        names.add(m.getName());
      }
    }
    TreeSet<String> want = new TreeSet<>(Arrays.asList(METHODS));
    Due.due("methods are those of the document: " + seen, seen.equals(want) ? 1 : 0, 1);
    for (Method m : CellYard.class.getDeclaredMethods()) {
      if (Modifier.isPrivate(m.getModifiers())) {
        Due.due("private " + m.getName() + " bears a public name", names.contains(m.getName()) ? 1 : 0, 0);
      }
    }
  }

  private static String told(Method m) {
    StringBuilder text = new StringBuilder();
    for (Class<?> type : m.getParameterTypes()) {
      text.append(text.length() == 0 ? "" : ", ").append(type.getName());
    }
    return m.getReturnType().getName() + " " + m.getName() + "(" + text + ")";
  }

  private static void fieldsAndConstructors() {
    for (Field f : CellYard.class.getDeclaredFields()) {
      boolean constant = f.getName().equals("NONE") || f.getName().equals("FULL");
      Due.due(f + " is private, or a constant of the face", Modifier.isPrivate(f.getModifiers()) ? 1 : 0, constant ? 0 : 1);
      if (Modifier.isStatic(f.getModifiers())) {
        Due.due(f + " is final", Modifier.isFinal(f.getModifiers()) ? 1 : 0, 1);
      }
    }
    Constructor<?>[] all = CellYard.class.getDeclaredConstructors();
    Due.due("constructors", all.length, 1);
    Due.due("its parameters", all[0].getParameterCount(), 0);
    Due.due("it is public", all[0].getModifiers(), Modifier.PUBLIC);
    for (Class<?> inside : CellYard.class.getDeclaredClasses()) {
      Due.due(inside + " is static", Modifier.isStatic(inside.getModifiers()) ? 1 : 0, 1);
    }
  }
}
