import java.io.IOException;
import java.lang.reflect.Constructor;
import java.lang.reflect.Field;
import java.lang.reflect.Method;
import java.lang.reflect.Modifier;
import java.nio.file.Files;
import java.nio.file.Path;
import java.util.ArrayList;
import java.util.List;
import java.util.Set;
import java.util.TreeSet;
import java.util.regex.Matcher;
import java.util.regex.Pattern;

/** What of ../shared/LANGUAGE.md can be seen in the source and the compiled classes. */
public final class LanguageTest {
  private static final String[] FACE = {
    "int feed(int)", "int setting()", "int singer(int,int,int)", "int of(int,int)", "int row(int,int,int)",
    "int sing(int,int)", "int tire(int,int)", "int stone(int)", "int at(int,int)", "int prop(int,boolean)",
    "int told(int)", "int beat()", "int on(int,int)", "int steady()", "int best(int,int)", "int chord(int)",
    "int needed()", "int spare()", "int shift(int,int)", "int ill(int)", "int canon(int,int)", "int props(int)",
    "int critical(int)", "int load()", "int dust(int,int)", "int flat()", "int order(int)", "long odds(int)",
    "long mean(int,int)", "long wage(int,int)", "int plan(int,int)", "int planned(int)", "int book(int,int)",
    "int looked()", "int act(int,int,int)", "int trace(int)", "int as(int,int)", "int image()", "int undo()",
    "int count(int)"
  };
  private static final String[] BANNED = {
    "\\b(throw|throws|try|catch|finally|synchronized|assert|import|package|native|volatile|goto)\\b",
    "\\b(float|double|Object|Random|Thread|Class|System\\.(?!arraycopy))\\b", "->", "::", "@", "\\bwhile\\s*\\(\\s*true",
    "\\bfor\\s*\\([^;()]*;\\s*;", "\"\\s*\\+|\\+\\s*\"", "\\.(equals|hashCode|toString|getClass)\\b", "Exact\\b",
    "\\?\\s*>", "\\bstatic\\s*\\{", "\\bstatic\\s+(?!final)(?:int|long|char|byte|boolean|String)(\\[\\])?\\s+\\w+\\s*(=|;)"
  };

  public static void main(String[] args) throws IOException {
    face();
    insideClasses();
    source(args.length > 0 ? args[0] : "src/main/java/ChoirRoof.java");
    Due.end();
  }

  private static String signature(Method m) {
    StringBuilder s = new StringBuilder(m.getReturnType() + " " + m.getName() + "(");
    Class<?>[] types = m.getParameterTypes();
    for (int i = 0; i < types.length; i++) s.append(i == 0 ? "" : ",").append(types[i]);
    return s.append(")").toString();
  }

  private static void face() {
    Class<?> c = ChoirRoof.class;
    Set<String> names = new TreeSet<>();
    Set<String> found = new TreeSet<>();
    for (String f : FACE) names.add(f.substring(f.indexOf(' ') + 1, f.indexOf('(')));
    for (Method m : c.getDeclaredMethods()) {
      if (Modifier.isPrivate(m.getModifiers())) {
        Due.is("private method " + m.getName() + " bears a public one's name", names.contains(m.getName()) ? 1 : 0, 0);
      } else {
        found.add(signature(m));
        Due.is(m.getName() + " is public", Modifier.isPublic(m.getModifiers()) ? 1 : 0, 1);
      }
    }
    Due.is("the face is " + found, found.equals(new TreeSet<>(List.of(FACE))) ? 1 : 0, 1);
    Constructor<?>[] made = c.getDeclaredConstructors();
    Due.is("one public constructor", made.length == 1 && Modifier.isPublic(made[0].getModifiers()) ? 1 : 0, 1);
    Due.is("public and final", c.getModifiers() & (Modifier.PUBLIC | Modifier.FINAL), Modifier.PUBLIC | Modifier.FINAL);
    for (Field f : c.getDeclaredFields()) {
      boolean constant = List.of("NONE", "BAD", "STATE", "FULL", "NO").contains(f.getName());
      Due.is("field " + f.getName() + " is not private", Modifier.isPrivate(f.getModifiers()) ? 0 : 1, constant ? 1 : 0);
    }
  }

  private static void insideClasses() {
    List<Class<?>> all = new ArrayList<>(List.of(ChoirRoof.class.getDeclaredClasses()));
    Due.is("some twelve classes", all.size() <= 12 ? 1 : 0, 1);
    for (Class<?> c : all) Due.is(c + " is static", Modifier.isStatic(c.getModifiers()) ? 1 : 0, 1);
    all.add(ChoirRoof.class);
    for (Class<?> c : all) {
      int fields = 0;
      for (Field f : c.getDeclaredFields()) {
        if (!Modifier.isStatic(f.getModifiers())) fields++;
        else Due.is(c + "." + f.getName() + " is final", Modifier.isFinal(f.getModifiers()) ? 1 : 0, 1);
      }
      Due.is(c + ": " + fields + " fields, some twenty", fields <= 20 ? 1 : 0, 1);
      for (Method m : c.getDeclaredMethods()) {
        Due.is(m + ": seven parameters at most", m.getParameterCount() <= 7 ? 1 : 0, 1);
      }
    }
  }

  private static void source(String path) throws IOException {
    String text = Files.readString(Path.of(path));
    for (int i = 0; i < text.length(); i++) {
      if (text.charAt(i) > 127) Due.is("sign at " + i, text.charAt(i), 127);
    }
    String bare = text.replaceAll("(?s)/\\*.*?\\*/", "").replaceAll("//[^\n]*", "");
    for (String banned : BANNED) {
      Matcher m = Pattern.compile(banned).matcher(bare);
      Due.is("[" + banned + "] stands in the class", m.find() ? m.start() : -1, -1);
    }
    // A method begins by four or eight blanks and a ( on its first line, and ends by the same blanks and a }.
    Matcher m = Pattern.compile("(?m)^( {4}| {8})(?! )[^\\n=;]*\\([^\\n;]*\\) \\{\\n((?s).*?)^\\1\\}").matcher(text);
    int methods = 0;
    while (m.find()) {
      methods++;
      int lines = m.group(2).split("\n").length;
      Due.is("lines of " + m.group().split("\n")[0].trim(), Math.max(lines, 60), 60);
    }
    Due.is("methods found: " + methods, methods > 80 ? 1 : 0, 1);
  }
}
