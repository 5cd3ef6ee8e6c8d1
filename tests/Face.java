import com.sun.management.ThreadMXBean;
import java.lang.management.ManagementFactory;
import java.lang.reflect.Constructor;
import java.lang.reflect.Field;
import java.lang.reflect.Method;
import java.lang.reflect.Modifier;
import java.util.Arrays;
import java.util.HashSet;
import java.util.Set;
import java.util.TreeSet;

/** The public face, what LANGUAGE.md limits that can be seen from outside, and the room taken. */
public final class Face {
  private static final String[] METHODS = {
    "int addPlace(int,int) IllegalArgumentException IllegalStateException",
    "int addVehicle(int,int,int,int,int,int) IndexOutOfBoundsException IllegalArgumentException"
        + " IllegalStateException",
    "int addJob(int,int,int,int,int) IndexOutOfBoundsException IllegalArgumentException"
        + " IllegalStateException",
    "boolean setHours(int,boolean,int,int) IndexOutOfBoundsException IllegalArgumentException"
        + " IllegalStateException",
    "int insert(int) IndexOutOfBoundsException IllegalStateException",
    "int insertAt(int,int,int,int) IndexOutOfBoundsException IllegalArgumentException"
        + " IllegalStateException",
    "int take(int) IndexOutOfBoundsException IllegalStateException",
    "int rebuild()",
    "int ruin(int) IllegalArgumentException",
    "int change(int) IllegalArgumentException",
    "int improve(int) IllegalArgumentException",
    "int repair(int) IndexOutOfBoundsException",
    "int advance(int) IllegalArgumentException IllegalStateException",
    "int clock()",
    "int places()",
    "int vehicles()",
    "int jobs()",
    "int way(int,int) IndexOutOfBoundsException",
    "int vehicleOf(int) IndexOutOfBoundsException",
    "boolean isSet(int) IndexOutOfBoundsException",
    "int stops(int) IndexOutOfBoundsException",
    "int setStops(int) IndexOutOfBoundsException",
    "int jobAt(int,int) IndexOutOfBoundsException",
    "boolean isFetched(int,int) IndexOutOfBoundsException",
    "int arrives(int,int) IndexOutOfBoundsException",
    "int begins(int,int) IndexOutOfBoundsException",
    "int loadBehind(int,int) IndexOutOfBoundsException",
    "int slack(int,int) IndexOutOfBoundsException",
    "int back(int) IndexOutOfBoundsException",
    "int waits(int) IndexOutOfBoundsException",
    "boolean isRight(int) IndexOutOfBoundsException",
    "int length(int) IndexOutOfBoundsException",
    "int costOf(int) IndexOutOfBoundsException",
    "int cost()",
    "double fullness()",
    "int wouldAdd(int,int) IndexOutOfBoundsException IllegalStateException",
    "int gain(int) IllegalArgumentException",
    "int laterBack(int,int,int) IndexOutOfBoundsException IllegalArgumentException",
    "int costWithout(int) IndexOutOfBoundsException",
    "long digest()",
  };
  private static int wrong = 0;

  private static void need(boolean holds, String what) {
    if (!holds) {
      wrong++;
      System.out.println("wrong: " + what);
    }
  }

  public static void main(String[] args) {
    checkMembers();
    checkLimits(DroverPlan.class);
    for (Class<?> inside : DroverPlan.class.getDeclaredClasses()) {
      need(!Modifier.isPublic(inside.getModifiers()), inside + " is public");
      need(!Modifier.isProtected(inside.getModifiers()), inside + " is protected");
      need(Modifier.isStatic(inside.getModifiers()), inside + " is not static");
      checkLimits(inside);
    }
    checkRoom();
    System.out.println(wrong == 0 ? "the face is as it should be" : wrong + " faults");
    System.exit(wrong == 0 ? 0 : 1);
  }

  private static void checkMembers() {
    Class<?> c = DroverPlan.class;
    need(Modifier.isFinal(c.getModifiers()) && Modifier.isPublic(c.getModifiers()), "public final");
    Constructor<?>[] made = c.getDeclaredConstructors();
    need(made.length == 1 && Modifier.isPublic(made[0].getModifiers())
        && made[0].getParameterCount() == 0, "one public constructor");
    Set<String> names = new HashSet<>();
    Set<String> face = new TreeSet<>();
    for (Method m : c.getDeclaredMethods()) {
      if (Modifier.isPublic(m.getModifiers())) {
        need(!Modifier.isStatic(m.getModifiers()), m + " is static");
        face.add(told(m));
        names.add(m.getName());
      }
    }
    need(face.equals(new TreeSet<>(Arrays.asList(METHODS))), "public methods: " + face);
    for (Method m : c.getDeclaredMethods()) {
      if (!Modifier.isPublic(m.getModifiers()) && !m.isSynthetic()) {
        need(Modifier.isPrivate(m.getModifiers()), m + " is not private");
        need(!names.contains(m.getName()), m + " bears a public name");
      }
    }
    for (Field f : c.getDeclaredFields()) {
      need(Modifier.isPrivate(f.getModifiers()), f + " is not private");
    }
    for (Class<?> inside : c.getDeclaredClasses()) {
      for (Method m : inside.getDeclaredMethods()) {
        need(!names.contains(m.getName()), m + " bears a public name");
        need(!Modifier.isPublic(m.getModifiers()), m + " is public");
      }
    }
  }

  private static String told(Method m) {
    StringBuilder text = new StringBuilder(m.getReturnType().getSimpleName());
    text.append(' ').append(m.getName()).append('(');
    for (int n = 0; n < m.getParameterCount(); n++) {
      text.append(n > 0 ? "," : "").append(m.getParameterTypes()[n].getSimpleName());
    }
    text.append(')');
    for (Class<?> e : m.getExceptionTypes()) {
      text.append(' ').append(e.getSimpleName());
    }
    return text.toString();
  }

  private static void checkLimits(Class<?> c) {
    int fields = 0;
    for (Field f : c.getDeclaredFields()) {
      boolean isStatic = Modifier.isStatic(f.getModifiers());
      need(!isStatic || Modifier.isFinal(f.getModifiers()), f + " is static, not final");
      fields += isStatic ? 0 : 1;
    }
    need(fields <= 20, c + " has " + fields + " fields");
    for (Method m : c.getDeclaredMethods()) {
      need(m.getParameterCount() <= 7, m + " takes more than seven parameters");
    }
  }

  /** No call makes an object: 512 of the dearest take no room behind the constructor's. */
  private static void checkRoom() {
    ThreadMXBean bean = (ThreadMXBean) ManagementFactory.getThreadMXBean();
    DroverPlan p = full();
    work(p, 2);
    long before = bean.getCurrentThreadAllocatedBytes();
    work(p, 512);
    long taken = bean.getCurrentThreadAllocatedBytes() - before;
    need(taken < 20000, "512 calls of each take " + taken + " bytes");
  }

  private static DroverPlan full() {
    DroverPlan p = new DroverPlan();
    for (int n = 0; n < 12; n++) {
      p.addPlace(n * 7 % 13, n * 5 % 11);
    }
    for (int n = 0; n < 3; n++) {
      p.addVehicle(n, 50, 0, 1440, 1, n);
    }
    for (int n = 0; n < 9; n++) {
      p.addJob(n, 11 - n, 3, 1, 999);
    }
    return p;
  }

  private static void work(DroverPlan p, int times) {
    long sum = 0;
    for (int n = 0; n < times; n++) {
      sum += p.ruin(9) + p.rebuild() + p.improve(10) + p.digest() + p.repair(0) + p.gain(n % 4);
      sum += p.take(n % 9) + p.wouldAdd(n % 9, n % 3) + p.costWithout(n % 9) + p.insert(n % 9);
      sum += p.slack(p.vehicleOf(0), 0) + p.laterBack(p.vehicleOf(0), 0, 5) + p.change(n % 4);
      sum += p.fullness() > 0 ? 1 : 0;
    }
    need(sum != 0, "nothing was done");
  }
}
