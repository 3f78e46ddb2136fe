import java.lang.reflect.Constructor;
import java.lang.reflect.Field;
import java.lang.reflect.Method;
import java.lang.reflect.Modifier;
import java.util.Arrays;
import java.util.TreeSet;

/** The public face is the printed one, and the class has no other member that is not private. */
public final class FaceTest {
  private static final String[] FACE = {
    "int room()", "int door(int,int,int,int)", "int wall(int,int,int,int)", "int light(int,int,int,int,int)",
    "boolean blind(int,int,int)", "int set(int,int)", "int picture(int,int,int,int,int,int,int)", "int tell(int,int,int)",
    "int sign(int)", "boolean end(int)", "int term(int,int)", "int force(int)", "int why(int,int,int)", "int fits(int,int,int)",
    "int hang(int,int,int)", "boolean store(int)", "boolean send(int)", "int at(int,int)!", "int on(int)", "int places(int)",
    "int of(int,int)", "int step(int)", "int fades(int)", "int shown(int,int,int)", "int owed(int,int)", "int like(int,int,int)!",
    "int best(int,int)!", "int lay()", "int tale(int)", "int route(int)", "int breaks()", "boolean shut(int,boolean)",
    "int way(int,int,int)", "int bars(int,int,int)", "int move(int,int,int)", "int nights(int,int)", "int done()",
    "int stand(int)", "boolean sight(int,int)", "int guard(int)", "int count(int)", "int row(int)!"};

  public static void main(String[] args) throws Exception {
    Class<?> c = GalleryWalls.class;
    TreeSet<String> got = new TreeSet<>();
    TreeSet<String> names = new TreeSet<>();
    for (Method m : c.getDeclaredMethods()) {
      if (Modifier.isPrivate(m.getModifiers()) || m.isSynthetic()) continue;
      got.add(told(m));
      names.add(m.getName());
      Due.is("only public: " + m, Modifier.PUBLIC, m.getModifiers());
    }
    Due.yes("the methods of the face, but got " + got, got.equals(new TreeSet<>(Arrays.asList(FACE))));
    for (Method m : c.getDeclaredMethods())
      if (Modifier.isPrivate(m.getModifiers())) Due.no("a private method with the name of a public one: " + m, names.contains(m.getName()));
    for (Field f : c.getDeclaredFields()) {
      if (f.getName().equals("NONE")) {
        Due.is("NONE's modifiers", Modifier.PUBLIC | Modifier.STATIC | Modifier.FINAL, f.getModifiers());
        Due.is("NONE", -1, f.getInt(null));
      } else {
        Due.yes("private: " + f, Modifier.isPrivate(f.getModifiers()));
      }
      if (Modifier.isStatic(f.getModifiers())) Due.yes("final: " + f, Modifier.isFinal(f.getModifiers()));
    }
    Constructor<?>[] constructors = c.getDeclaredConstructors();
    Due.is("constructors", 1, constructors.length);
    Due.yes("a public constructor without arguments", Modifier.isPublic(constructors[0].getModifiers()) && constructors[0].getParameterCount() == 0);
    Due.yes("public and final", Modifier.isPublic(c.getModifiers()) && Modifier.isFinal(c.getModifiers()));
    Due.is("classes inside: at most 12 in all", 1, c.getDeclaredClasses().length < 12 ? 1 : 0);
    for (Class<?> inside : c.getDeclaredClasses()) {
      int m = inside.getModifiers();
      Due.yes("static and not public: " + inside, Modifier.isStatic(m) && !Modifier.isPublic(m) && !Modifier.isProtected(m));
      int fields = 0;
      for (Field f : inside.getDeclaredFields()) if (!Modifier.isStatic(f.getModifiers())) fields++;
      Due.yes("at most 20 fields: " + inside, fields <= 20);
      for (Method n : inside.getDeclaredMethods()) {
        Due.yes("at most seven parameters: " + n, n.getParameterCount() <= 7);
        Due.no("the name of a public method: " + n, names.contains(n.getName()));
      }
    }
    Due.end();
  }

  private static String told(Method m) {
    StringBuilder s = new StringBuilder(m.getReturnType().getName()).append(' ').append(m.getName()).append('(');
    for (Class<?> p : m.getParameterTypes()) s.append(s.charAt(s.length() - 1) == '(' ? "" : ",").append(p.getName());
    s.append(')');
    if (m.getExceptionTypes().length > 0) s.append('!');
    return s.toString();
  }
}
