import java.lang.reflect.Method;
import java.util.Map;
import java.util.TreeMap;

/** What the tests share: telling texts, and counting answers that are not as due. */
final class Kit {
  private static int wrong = 0;
  private static int asked = 0;
  /** The test that runs now, told ahead of what is wrong in it. */
  private static String test = "";

  private Kit() { }

  static void due(String call, long got, long want) {
    asked++;
    if (got != want) { wrong++; System.out.println(test + call + " answered " + got + ", due is " + want); }
  }

  /**
   * Runs every test of a class: the methods whose names begin with what they test, promise07.. or terms2.. There must be
   * one at least for each of these beginnings, and each must ask for something.
   */
  static void runEach(Class<?> tests, String... beginnings) throws Exception {
    Map<String, Method> named = new TreeMap<>();
    for (Method m : tests.getDeclaredMethods()) if (m.getName().matches("(promise\\d\\d|terms[123])[A-Z]\\w*")) named.put(m.getName(), m);
    for (String b : beginnings) due("a test of " + b, named.keySet().stream().anyMatch(n -> n.startsWith(b)), true);
    for (Map.Entry<String, Method> e : named.entrySet()) {
      test = e.getKey() + ": ";
      int before = asked;
      e.getValue().invoke(null);
      due("something is asked", asked > before, true);
    }
    test = "";
    System.out.println(tests.getName() + ": " + named.size() + " tests");
    finish(tests.getName());
  }

  /** All that changes, as answers tell it, but for ACTS that can be undone. */
  static int[] picture(GateGroup x) {
    int[] all = new int[16 + 5 * 9 + 30 * 8 + 60 * 4 + 20 * 5];
    int n = 0;
    for (int w = 0; w < 16; w++) all[n++] = w == 13 ? 0 : x.has(w);
    for (int g = 0; g < 5; g++) for (int w = 0; w < 9; w++) all[n++] = x.group(g, w);
    for (int g = 0; g < 5; g++) for (int k = 0; k < 6; k++) for (int w = 0; w < 8; w++) all[n++] = x.member(g, k, w);
    for (int i = 0; i < 60; i++) for (int w = 0; w < 4; w++) all[n++] = x.log(i, w);
    for (int k = 0; k < 20; k++) for (int w = 0; w < 5; w++) all[n++] = x.event(k, w);
    return all;
  }

  static void same(String what, int[] got, int[] want) {
    for (int i = 0; i < want.length; i++) due(what + ", number " + i, got[i], want[i]);
  }

  static void due(String call, boolean got, boolean want) { due(call, got ? 1 : 0, want ? 1 : 0); }

  /** The text comes on the tape, and nothing behind it. */
  static void tape(GateGroup x, String text) {
    int before = x.feed(0, 0, 0, 0, 0);
    x.end(before < 0 ? 0 : before - 20);
    int length = before < 0 ? 0 : before - 20;
    for (int i = 0; i < text.length(); i += 20)
      x.feed(four(text, i), four(text, i + 4), four(text, i + 8), four(text, i + 12), four(text, i + 16));
    x.end(length + text.length());
  }

  private static int four(String text, int from) {
    int n = 0;
    for (int i = from; i < from + 4; i++) n = n << 8 | (i < text.length() ? text.charAt(i) & 255 : 32);
    return n;
  }

  static int net(GateGroup x, String text) { tape(x, text); return x.net(); }
  static int plan(GateGroup x, String text) { tape(x, text); return x.plan(); }

  /** An object with a NET, and a PLAN if there is a second text. */
  static GateGroup of(String... texts) {
    GateGroup x = new GateGroup();
    if (net(x, texts[0]) < 0) { wrong++; System.out.println("no NET: " + texts[0] + " FAULT " + x.fault(0) + " at " + x.fault(1)); }
    if (texts.length > 1 && plan(x, texts[1]) < 0) { wrong++; System.out.println("no PLAN: " + texts[1] + " FAULT " + x.fault(0) + " at " + x.fault(1)); }
    return x;
  }

  /** As many TICKS as need be for this one to be now. */
  static GateGroup till(GateGroup x, int tick) {
    while (x.has(5) < tick && x.ticks(Math.min(500, tick - x.has(5))) > 0) { }
    due("till " + tick, x.has(5), tick);
    return x;
  }

  static void finish(String name) {
    System.out.println(name + ": " + asked + " answers, " + wrong + " not as due");
    if (wrong != 0) System.exit(1);
  }
}
