import java.lang.reflect.Constructor;
import java.lang.reflect.Field;
import java.lang.reflect.Method;
import java.lang.reflect.Modifier;
import java.util.Set;
import java.util.StringJoiner;
import java.util.TreeSet;

/** The class has the face that the document tells, with its throws clauses, and nothing more that can be seen. */
public final class FaceTests {
  private static final String I = "IndexOutOfBoundsException";
  private static final String A = "IllegalArgumentException";
  private static final String S = "IllegalStateException";

  private static final String[] FACE = {
    "plan(4) " + I + " " + A + " " + S,
    "crew(1) " + A,
    "shoot(6) " + I + " " + A + " " + S,
    "pass(1) " + A + " " + S,
    "hour(0)",
    "ofSheet(2) " + I + " " + A,
    "wear(3) " + I,
    "ofGame(2) " + I + " " + A,
    "stone(3) " + I,
    "wouldScore(1) " + I,
    "wouldScoreAnew(1) " + I,
    "tries(6) " + I + " " + A + " " + S,
    "advice(1) " + I + " " + S,
    "standing(1) " + I,
    "ofTeam(2) " + I + " " + A,
  };

  private static int wrong = 0;

  private static void same(String what, Object got, Object want) {
    if (!got.equals(want)) {
      wrong++;
      System.out.println(what + ": is " + got + ", due is " + want);
    }
  }

  private static boolean isSeen(int modifiers) {
    return !Modifier.isPrivate(modifiers);
  }

  private static String told(Method method) {
    StringJoiner words = new StringJoiner(" ");
    words.add(method.getName() + "(" + method.getParameterCount() + ")");
    for (Class<?> thrown : method.getExceptionTypes()) {
      words.add(thrown.getSimpleName());
    }
    return words.toString();
  }

  private static void methods() {
    Set<String> seen = new TreeSet<>();
    Set<String> names = new TreeSet<>();
    for (Method method : HackHouse.class.getDeclaredMethods()) {
      if (method.isSynthetic() || !isSeen(method.getModifiers())) {
        continue;
      }
      seen.add(told(method));
      names.add(method.getName());
      same(method.getName() + " is public alone", method.getModifiers(), Modifier.PUBLIC);
      same("what " + method.getName() + " returns", method.getReturnType(), int.class);
      for (Class<?> parameter : method.getParameterTypes()) {
        same("what " + method.getName() + " takes", parameter, int.class);
      }
    }
    same("the methods", seen, new TreeSet<>(Set.of(FACE)));
    for (Method method : HackHouse.class.getDeclaredMethods()) {
      if (!isSeen(method.getModifiers())) {
        same("a private method is called " + method.getName(), names.contains(method.getName()), false);
      }
    }
  }

  private static void constants() throws IllegalAccessException {
    Set<String> seen = new TreeSet<>();
    for (Field field : HackHouse.class.getDeclaredFields()) {
      if (!field.isSynthetic() && isSeen(field.getModifiers())) {
        same("the modifiers of " + field.getName(), Modifier.toString(field.getModifiers()), "public static final");
        same("the type of " + field.getName(), field.getType(), int.class);
        seen.add(field.getName() + " " + (Modifier.isStatic(field.getModifiers()) ? field.getInt(null) : "of an object"));
      }
      if (Modifier.isStatic(field.getModifiers())) {
        same(field.getName() + " is final", Modifier.isFinal(field.getModifiers()), true);
      }
    }
    same("the constants", seen, new TreeSet<>(Set.of("PLANNED 0", "DRAWS 1", "PLAYS 2", "OVER 3")));
  }

  private static void constructor() {
    Constructor<?>[] constructors = HackHouse.class.getDeclaredConstructors();
    same("how many constructors", constructors.length, 1);
    same("its parameters", constructors[0].getParameterCount(), 0);
    same("its modifiers", constructors[0].getModifiers(), Modifier.PUBLIC);
    same("the class", HackHouse.class.getModifiers(), Modifier.PUBLIC | Modifier.FINAL);
    same("the package", HackHouse.class.getPackageName(), "");
  }

  public static void main(String[] args) throws IllegalAccessException {
    methods();
    constants();
    constructor();
    System.out.println(wrong == 0 ? "the face is as due" : wrong + " things are not as due");
    if (wrong != 0) {
      System.exit(1);
    }
  }
}
