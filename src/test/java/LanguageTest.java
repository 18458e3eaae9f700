import java.lang.reflect.Constructor;
import java.lang.reflect.Field;
import java.lang.reflect.Method;
import java.lang.reflect.Modifier;
import java.nio.file.Files;
import java.nio.file.Path;
import java.util.Set;
import java.util.TreeSet;
import java.util.regex.Matcher;
import java.util.regex.Pattern;

/** The document's face, and those rules of LANGUAGE.md that can be seen from the class and from its text. */
public final class LanguageTest {
  private static final String SOURCE = "src/main/java/TideMill.java";
  private static final String[] FACE = {
    "round/1", "height/2", "tide/1", "pond/3", "gate/2", "water/2", "channel/3", "widen/2", "about/2", "mill/5",
    "as/2", "stone/5", "on/3", "sack/4", "row/3", "told/2", "flour/1", "hours/1", "running/0", "best/3", "ahead/2",
    "all/1", "tell/1", "check/1", "count/1", "found/1"};

  private static int wrong = 0;

  private static void must(boolean holds, String what) {
    if (!holds) {
      wrong++;
      System.out.println("rule broken: " + what);
    }
  }

  public static void main(String[] args) throws Exception {
    face();
    for (Class<?> inside : TideMill.class.getDeclaredClasses()) {
      inside(inside);
    }
    text();
    System.out.println(wrong == 0 ? "the rules hold" : wrong + " rules are broken");
    if (wrong != 0) {
      System.exit(1);
    }
  }

  private static void face() {
    must(Modifier.isPublic(TideMill.class.getModifiers()), "1 the class is public");
    must(Modifier.isFinal(TideMill.class.getModifiers()), "1 the class is final");
    Constructor<?>[] made = TideMill.class.getDeclaredConstructors();
    must(made.length == 1 && made[0].getParameterCount() == 0 && Modifier.isPublic(made[0].getModifiers()),
        "1 one public constructor");
    Set<String> open = new TreeSet<>();
    Set<String> names = new TreeSet<>();
    for (Method m : TideMill.class.getDeclaredMethods()) {
      if (Modifier.isPublic(m.getModifiers())) {
        open.add(m.getName() + "/" + m.getParameterCount());
        names.add(m.getName());
        must(m.getReturnType() == int.class, "1 " + m.getName() + " answers int");
        for (Class<?> p : m.getParameterTypes()) {
          must(p == int.class, "1 " + m.getName() + " takes ints");
        }
      }
    }
    must(open.equals(new TreeSet<>(Set.of(FACE))), "1 the public methods are " + open);
    for (Method m : TideMill.class.getDeclaredMethods()) {
      if (!Modifier.isPublic(m.getModifiers())) {
        must(Modifier.isPrivate(m.getModifiers()) || m.isSynthetic(), "1 " + m.getName() + " is private");
        must(!names.contains(m.getName()), "1 " + m.getName() + " bears the name of a public method");
      }
    }
    int fields = 0;
    for (Field f : TideMill.class.getDeclaredFields()) {
      must(Modifier.isPrivate(f.getModifiers()), "1 " + f.getName() + " is private");
      must(!Modifier.isStatic(f.getModifiers()) || Modifier.isFinal(f.getModifiers()), "5 " + f.getName() + " is final");
      fields += Modifier.isStatic(f.getModifiers()) ? 0 : 1;
    }
    must(fields <= 20, "11 fields of TideMill: " + fields);
    must(TideMill.class.getDeclaredClasses().length < 12, "11 twelve classes at most");
  }

  private static void inside(Class<?> c) {
    must(Modifier.isStatic(c.getModifiers()) && !Modifier.isPublic(c.getModifiers()), "2 " + c.getName() + " is static");
    must(c.getDeclaredFields().length <= 20, "11 fields of " + c.getName());
    for (Method m : c.getDeclaredMethods()) {
      must(m.getParameterCount() <= 7, "11 parameters of " + m.getName());
    }
  }

  private static void text() throws Exception {
    String all = Files.readString(Path.of(SOURCE));
    must(all.chars().allMatch(c -> c < 128), "3 signs below 128");
    String code = all.replaceAll("(?s)/\\*.*?\\*/", "").replaceAll("//[^\n]*", "");
    Matcher no = Pattern.compile("\\b(import|package|throw|throws|try|catch|synchronized|assert|goto|native|volatile"
        + "|Object|Thread|Random|Exact)\\b|->|::|\\bstatic\\s*\\{").matcher(code);
    while (no.find()) {
      must(false, "not in the language: " + no.group());
    }
    must(!Pattern.compile("\\w+Exact\\b").matcher(code).find(), "4 none of the Exact functions");
  }
}
