import java.lang.reflect.Constructor;
import java.lang.reflect.Field;
import java.lang.reflect.Method;
import java.lang.reflect.Modifier;
import java.util.Arrays;
import java.util.Set;
import java.util.TreeSet;

/** The public face is the document's, and nothing else is to be seen of the class (LANGUAGE.md, rule 1). */
public final class FaceTest {
  private static final String FACE = """
      int instrument(int)
      int piece(int,int)
      int thing(int,int)
      int wax(int,int)
      int hand(int)
      int set(int,int)
      int swing(int,int,int)
      int buzzes(int,int,int,int)
      int heard(int,int)
      int bands(int,int,int,int)
      int loudest(int,int)
      int softest(int,int)
      int ask(int,int,boolean)
      int forget()
      int fits()
      int both(int,int)
      int odds(int,boolean,int)
      int which()
      int next(int)
      int fewest(int,int)
      int shift(int,int)
      int lives(int,int,int)
      int seamOrCrack(int,int,int)
      int length(int,int)
      int friday(int,int,int)
      int wolf(int)
      int beats(int)
      int ends(int)
      int rattles(int,int,int)
      int harm(int)
      int hair(int,int,int,int)
      int judge(int,int,int)
      int image()
      int restore()
      int count(int)
      int keep(int,int,int)
      int row(int,int,int)
      int put(int,int,int)
      long element(int,int)
      int copy(int,int,int,int,int)
      int price(int)
      int toss(int)
      """;

  private static int wrong = 0;

  private static void due(String what, boolean so) {
    if (so) return;
    wrong++;
    System.out.println(what);
  }

  private static String signOf(Method m) {
    StringBuilder b = new StringBuilder(m.getReturnType().getName()).append(' ').append(m.getName()).append('(');
    for (Class<?> c : m.getParameterTypes()) b.append(b.charAt(b.length() - 1) == '(' ? "" : ",").append(c.getName());
    return b.append(')').toString();
  }

  public static void main(String[] args) throws Exception {
    Class<?> c = FiddleBuzz.class;
    due("the class is public and final", Modifier.isPublic(c.getModifiers()) && Modifier.isFinal(c.getModifiers()));
    Set<String> due = new TreeSet<>(Arrays.asList(FACE.split("\n")));
    Set<String> names = new TreeSet<>();
    for (String sign : due) names.add(sign.substring(sign.indexOf(' ') + 1, sign.indexOf('(')));
    for (Method m : c.getDeclaredMethods()) {
      if (Modifier.isPrivate(m.getModifiers())) {
        due("private, but with a public name: " + m, !names.contains(m.getName()));
      } else {
        due("not of the face: " + m, due.remove(signOf(m)) && Modifier.isPublic(m.getModifiers()) && !Modifier.isStatic(m.getModifiers()));
      }
    }
    due("missing: " + due, due.isEmpty());
    Constructor<?>[] made = c.getDeclaredConstructors();
    due("one public constructor", made.length == 1 && Modifier.isPublic(made[0].getModifiers()) && made[0].getParameterCount() == 0);
    for (Field f : c.getDeclaredFields()) due("a field that isn't private: " + f, Modifier.isPrivate(f.getModifiers()));
    Class<?>[] thrown = c.getMethod("element", int.class, int.class).getExceptionTypes();
    due("what element throws", Arrays.equals(thrown, new Class<?>[] {IllegalArgumentException.class, IllegalStateException.class}));
    for (Class<?> inner : c.getDeclaredClasses()) {
      due("a class inside that isn't static or is public: " + inner,
          Modifier.isStatic(inner.getModifiers()) && !Modifier.isPublic(inner.getModifiers()) && !Modifier.isProtected(inner.getModifiers()));
      for (Method m : inner.getDeclaredMethods()) due("a public name inside: " + m, !names.contains(m.getName()));
    }
    System.out.println(wrong == 0 ? "the face is as due" : wrong + " faults of the face");
    if (wrong != 0) System.exit(1);
  }
}
