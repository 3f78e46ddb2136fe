import java.lang.reflect.InvocationTargetException;
import java.lang.reflect.Method;
import java.util.Arrays;
import java.util.NoSuchElementException;
import java.util.function.Supplier;

/** No call throws but a NoSuchElementException where the document says so, whatever it is told and however full the gallery is. */
public final class ArgumentsTest {
  private static final int[] NUMBERS = {Integer.MIN_VALUE, -1, 0, 1, 8, 23, 100, Integer.MAX_VALUE};
  private static final int CALLS = 200;

  public static void main(String[] args) throws IllegalAccessException {
    for (Method call : GalleryWalls.class.getDeclaredMethods()) {
      if (!java.lang.reflect.Modifier.isPublic(call.getModifiers())) continue;
      all(call, GalleryWalls::new);
      all(call, Twins::whole);
      all(call, ArgumentsTest::full);
    }
    Due.end();
  }

  /** Each choice of arguments; of calls with many arguments only some. */
  private static void all(Method call, Supplier<GalleryWalls> making) throws IllegalAccessException {
    int n = call.getParameterCount();
    int choices = 1;
    for (int i = 0; i < n; i++) choices *= NUMBERS.length;
    int skip = n > 4 ? 127 : n > 3 ? 7 : 1;
    GalleryWalls x = making.get();
    int asked = 0;
    for (int choice = 0; choice < choices; choice += skip) {
      if (++asked % CALLS == 0) x = making.get();
      Object[] told = new Object[n];
      for (int i = 0, left = choice; i < n; i++, left /= NUMBERS.length) {
        int number = NUMBERS[left % NUMBERS.length];
        told[i] = call.getParameterTypes()[i] == boolean.class ? (Object) (number > 0) : (Object) number;
      }
      ask(x, call, told);
    }
  }

  private static void ask(GalleryWalls x, Method call, Object[] told) throws IllegalAccessException {
    try {
      call.invoke(x, told);
    } catch (InvocationTargetException e) {
      boolean due = call.getExceptionTypes().length > 0 && e.getCause().getClass() == NoSuchElementException.class;
      if (!due) Due.fault(call.getName() + Arrays.toString(told) + " threw " + e.getCause());
    }
  }

  /** All that the document bounds is there as often as it may be. */
  private static GalleryWalls full() {
    GalleryWalls x = Due.rooms(10);
    for (int i = 0; i < 20; i++) x.door(i % 10, (i + 1) % 10, 100, 200);
    for (int i = 0; i < 16; i++) x.wall(i % 10, 3000, 900, 9999);
    for (int i = 0; i < 24; i++) x.picture(10, 10, 1, i % 8, i, i, i % 8);
    for (int i = 0; i < 30; i++) Due.term(x, "1", i % 24, i);
    for (int i = 0; i < 24; i++) x.hang(i, i % 16, 100 * i);
    for (int i = 0; i < 12; i++) x.tale(i);
    for (int i = 0; i < 10; i++) x.route(i);
    for (int i = 0; i < 8; i++) x.move(i, 15 - i, 50 * i);
    for (int i = 0; i < 25; i++) x.sign(0x28282828);
    return x;
  }
}
