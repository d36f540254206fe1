import java.io.PrintWriter;
import java.io.StringWriter;
import java.lang.reflect.Field;
import java.lang.reflect.Member;
import java.lang.reflect.Method;
import java.lang.reflect.Modifier;
import java.nio.file.Files;
import java.nio.file.Path;
import java.util.ArrayList;
import java.util.List;
import java.util.Map;
import java.util.Set;
import java.util.TreeMap;
import java.util.TreeSet;
import java.util.regex.Matcher;
import java.util.regex.Pattern;
import java.util.spi.ToolProvider;

/** The public face, and those rules of LANGUAGE.md that can be seen from the classes and the source. */
public final class FaceTest {
  static final String FACE = "feed(int,int,int,int,int)int end(int)boolean net()int plan()int fault(int)int has(int)int group(int,int)int "
      + "member(int,int,int)int letter(int,int,int)int track(int,int)int event(int,int)int ticks(int)int up(int)int down(int,boolean)int "
      + "cut(int,boolean)int split(int)int word(int,int,int)int chance(int,int)int holder(int,int)int doubles()int orphans()int holds(int)int "
      + "slot(int,int,int)int slots(int,int)int host(int,int,int)int load(int,int,int)int ahead(int,int)int fails(int,int,int)int "
      + "worst(int,int)int settles()int least(int,int)int flaps(int,int)int needs(int,int)int letters(int)int stands(int,int,int)int "
      + "returns(int,int)int under(int,int,int)int rank(int,int)int log(int,int)int undo()int keep(int)int back(int)int";

  public static void main(String[] args) throws Exception {
    face();
    classes();
    source(strip(Files.readString(Path.of("src/main/java/GateGroup.java"))));
    depth();
    Kit.finish("FaceTest");
  }

  static void must(String what, boolean is) { Kit.due(what, is, true); }

  static boolean hidden(Member m) { return Modifier.isPrivate(m.getModifiers()) || m.isSynthetic(); }

  static void face() throws Exception {
    Set<String> want = new TreeSet<>(List.of(FACE.split(" ")));
    Set<String> got = new TreeSet<>();
    for (Method m : GateGroup.class.getDeclaredMethods()) {
      if (hidden(m)) continue;
      StringBuilder s = new StringBuilder(m.getName()).append('(');
      for (Class<?> p : m.getParameterTypes()) s.append(s.charAt(s.length() - 1) == '(' ? "" : ",").append(p);
      got.add(s.append(')').append(m.getReturnType()).toString());
      must("public " + m.getName(), Modifier.isPublic(m.getModifiers()) && !Modifier.isStatic(m.getModifiers()));
    }
    must("the methods of the document and no others: " + got, want.equals(got));
    List<String> fields = new ArrayList<>();
    for (Field f : GateGroup.class.getDeclaredFields()) if (!hidden(f)) fields.add(f.toString());
    must("NONE alone: " + fields, fields.equals(List.of("public static final int GateGroup.NONE")));
    Kit.due("NONE", GateGroup.NONE, -1);
    must("public and final", GateGroup.class.getModifiers() == (Modifier.PUBLIC | Modifier.FINAL));
    must("one constructor", GateGroup.class.getDeclaredConstructors().length == 1 && GateGroup.class.getConstructors().length == 1);
  }

  static Set<String> publicNames() {
    Set<String> names = new TreeSet<>();
    for (String f : FACE.split(" ")) names.add(f.substring(0, f.indexOf('(')));
    return names;
  }

  static void classes() {
    Set<String> publicNames = publicNames();
    List<Class<?>> all = new ArrayList<>(List.of(GateGroup.class.getDeclaredClasses()));
    must("twelve classes: " + (all.size() + 1), all.size() + 1 <= 12);
    for (Class<?> c : all) must(c + " is static and not public", Modifier.isStatic(c.getModifiers()) && !Modifier.isPublic(c.getModifiers()));
    all.add(GateGroup.class);
    for (Class<?> c : all) {
      int own = 0;
      for (Field f : c.getDeclaredFields()) {
        if (Modifier.isStatic(f.getModifiers())) must(f + " is final", Modifier.isFinal(f.getModifiers()));
        else own++;
      }
      must(c + " has twenty fields: " + own, own <= 20);
      for (Method m : c.getDeclaredMethods()) {
        must(m + " takes seven", m.getParameterCount() <= 7);
        if (c != GateGroup.class || hidden(m)) must(m + " has a name of its own", !publicNames.contains(m.getName()));
      }
    }
  }

  /** Without comments, and with empty texts and signs. */
  static String strip(String s) {
    return s.replaceAll("(?s)/\\*.*?\\*/", "").replaceAll("//[^\\n]*", "").replaceAll("\"[^\"]*\"", "\"\"").replaceAll("'[^']*'", "'x'");
  }

  static void source(String s) {
    String[] out = {"import", "package", "throw", "throws", "try", "catch", "finally", "synchronized", "assert", "enum", "record", "interface", "extends",
        "implements", "double", "float", "equals", "hashCode", "toString", "static \\{", "->", "::", "@", "protected", "volatile", "native", "instanceof"};
    for (String w : out) {
      String sign = w.matches("\\w+") ? "\\b" + w + "\\b" : w;
      must("no " + w, !Pattern.compile(sign).matcher(s).find());
    }
    Set<String> library = new TreeSet<>();
    Matcher m = Pattern.compile("\\b(System|Math|Integer|Long|Arrays|String|StringBuilder)\\.(\\w+)").matcher(s);
    while (m.find()) library.add(m.group());
    must("the library: " + library, Set.of("System.arraycopy", "Math.max", "Math.min", "Integer.bitCount").containsAll(library));
    must("no loop without a condition", !Pattern.compile("while \\(true\\)|for \\([^;]*;\\s*;").matcher(s).find());
    methods(s);
  }

  static void methods(String s) {
    String[] lines = s.split("\n", -1);
    String head = null;
    int from = 0;
    for (int i = 0; i < lines.length; i++) {
      if (lines[i].matches(" {4}( {4})?(public|private) [^=;]*\\) \\{")) { head = lines[i].trim(); from = i; }
      if (head != null && lines[i].matches(" {4}( {4})?\\}")) {
        must(head + " is short", i - from + 1 <= 60);
        head = null;
      }
      boolean makes = lines[i].contains("new ");
      boolean constructor = head != null && head.matches("(public|private) [A-Z]\\w*\\(.*");
      must("rows are made in constructors: " + lines[i].trim(), !makes || head == null || constructor);
    }
  }

  /** Rule 11: calls go eight deep at most, the library's included; rule 8: none comes back to itself. */
  static void depth() throws Exception {
    ToolProvider javap = ToolProvider.findFirst("javap").orElse(null);
    if (javap == null) { System.out.println("FaceTest: without javap the depth of calls is not looked at"); return; }
    List<String> args = new ArrayList<>(List.of("-c", "-p", "-s"));
    try (var files = Files.list(Path.of(GateGroup.class.getProtectionDomain().getCodeSource().getLocation().toURI()))) {
      files.map(Path::toString).filter(f -> f.matches(".*GateGroup(\\$\\w+)?\\.class")).forEach(args::add);
    }
    StringWriter told = new StringWriter();
    javap.run(new PrintWriter(told), new PrintWriter(told), args.toArray(new String[0]));
    Map<String, Set<String>> calls = calls(told.toString());
    must("public methods are among them", calls.containsKey("GateGroup.needs:(II)I"));
    for (String m : calls.keySet()) {
      int deep = deep(calls, m, new ArrayList<>());
      must(m + " goes " + deep + " deep", deep <= 8);
    }
  }

  static Map<String, Set<String>> calls(String told) {
    Map<String, Set<String>> calls = new TreeMap<>();
    String owner = "";
    String name = "";
    String caller = "";
    for (String line : told.split("\n")) {
      Matcher c = Pattern.compile("^(?:\\w+ )*class (\\S+)").matcher(line);
      Matcher n = Pattern.compile("^  \\S.*?([\\w$]+)\\(.*\\);$").matcher(line);
      Matcher d = Pattern.compile("^    descriptor: (\\(.*)$").matcher(line);
      Matcher call = Pattern.compile("// Method (\\S+)$").matcher(line);
      if (c.find()) owner = c.group(1);
      else if (n.find()) name = n.group(1).equals(owner) ? "<init>" : n.group(1);
      else if (d.find()) { caller = owner + "." + name + ":" + d.group(1); calls.put(caller, new TreeSet<>()); }
      else if (call.find()) {
        String whom = call.group(1).replace("\"", "");
        calls.get(caller).add(whom.substring(0, whom.indexOf(':')).contains(".") ? whom : owner + "." + whom);
      }
    }
    return calls;
  }

  static int deep(Map<String, Set<String>> calls, String method, List<String> open) {
    must("no way back to " + method, !open.contains(method));
    if (open.contains(method) || !calls.containsKey(method)) return 1;
    open.add(method);
    int most = 0;
    for (String m : calls.get(method)) most = Math.max(most, deep(calls, m, open));
    open.remove(method);
    return most + 1;
  }
}
