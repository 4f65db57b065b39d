import java.lang.reflect.Constructor;
import java.lang.reflect.Field;
import java.lang.reflect.Method;
import java.lang.reflect.Modifier;
import java.util.Set;
import java.util.TreeSet;

/** The public face of the document, and rules 1 and 5 of LANGUAGE.md on it. */
public final class FaceTest {
  private static final String[] METHODS = {"box 2", "put 0", "remove 1", "empty 0", "slide 3", "turn 1", "settle 1",
      "bodyOf 2", "parts 3", "way 3", "bodies 1", "group 1", "density 0", "keystone 2", "count 1", "undo 0", "type 1",
      "clearText 0", "fault 1"};

  public static void main(String[] args) {
    Due.is("INVALID_ARGUMENT", JammedBodies.INVALID_ARGUMENT, -1000001);
    Due.is("NOT_POSSIBLE", JammedBodies.NOT_POSSIBLE, -1000002);
    Due.is("LIMIT_REACHED", JammedBodies.LIMIT_REACHED, -1000003);
    Due.is("NOT_FOUND", JammedBodies.NOT_FOUND, -1000004);
    Class<?> face = JammedBodies.class;
    Due.isTrue("the class is public and final", Modifier.isPublic(face.getModifiers()) && Modifier.isFinal(face.getModifiers()));
    constructors(face);
    fields(face);
    methods(face);
    classesInside(face);
    Due.end();
  }

  private static void constructors(Class<?> face) {
    Constructor<?>[] all = face.getDeclaredConstructors();
    Due.is("constructors", all.length, 1);
    Due.isTrue("it is public, without parameters", Modifier.isPublic(all[0].getModifiers()) && all[0].getParameterCount() == 0);
  }

  private static void fields(Class<?> face) {
    Set<String> open = new TreeSet<>();
    for (Field field : face.getDeclaredFields()) {
      if (!Modifier.isPrivate(field.getModifiers())) open.add(field.getName());
      if (Modifier.isStatic(field.getModifiers())) Due.isTrue(field.getName() + " is final", Modifier.isFinal(field.getModifiers()));
    }
    Due.same("fields that are open", open.toString(), "[INVALID_ARGUMENT, LIMIT_REACHED, NOT_FOUND, NOT_POSSIBLE]");
  }

  private static void methods(Class<?> face) {
    Set<String> due = new TreeSet<>(Set.of(METHODS));
    Set<String> open = new TreeSet<>();
    Set<String> names = new TreeSet<>();
    for (Method method : face.getDeclaredMethods()) {
      if (method.isSynthetic() || Modifier.isPrivate(method.getModifiers())) continue;
      open.add(method.getName() + " " + method.getParameterCount());
      names.add(method.getName());
      boolean plain = Modifier.isPublic(method.getModifiers()) && !Modifier.isStatic(method.getModifiers())
          && method.getReturnType() == int.class;
      for (Class<?> parameter : method.getParameterTypes()) plain &= parameter == int.class;
      Due.isTrue(method.getName() + " is public, over int and returns int", plain);
    }
    Due.same("methods that are open", open.toString(), due.toString());
    for (Method method : face.getDeclaredMethods()) {
      boolean hidden = Modifier.isPrivate(method.getModifiers());
      Due.isTrue(method.getName() + " is private and named as a public one", !(hidden && names.contains(method.getName())));
    }
    for (Class<?> inside : face.getDeclaredClasses()) {
      for (Method method : inside.getDeclaredMethods()) {
        Due.isTrue(inside.getSimpleName() + "." + method.getName() + " bears no public name", !names.contains(method.getName()));
      }
    }
  }

  private static void classesInside(Class<?> face) {
    for (Class<?> inside : face.getDeclaredClasses()) {
      int modifiers = inside.getModifiers();
      boolean hidden = !Modifier.isPublic(modifiers) && !Modifier.isProtected(modifiers);
      Due.isTrue(inside.getSimpleName() + " is hidden and static", hidden && Modifier.isStatic(modifiers));
      for (Field field : inside.getDeclaredFields()) {
        boolean state = Modifier.isStatic(field.getModifiers()) && !field.isSynthetic();
        Due.isTrue(inside.getSimpleName() + "." + field.getName() + " is not static", !state);
      }
    }
    Due.isTrue("at most some twelve classes", face.getDeclaredClasses().length <= 11);
  }
}
