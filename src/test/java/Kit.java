/** What the tests share: telling texts, and counting answers that are not as due. */
final class Kit {
  private static int wrong = 0;
  private static int asked = 0;

  private Kit() { }

  static void due(String call, long got, long want) {
    asked++;
    if (got != want) { wrong++; System.out.println(call + " answered " + got + ", due is " + want); }
  }

  static void due(String call, boolean got, boolean want) { due(call, got ? 1 : 0, want ? 1 : 0); }

  /** The text comes on the tape, and nothing behind it. */
  static void tape(GateGroup x, String text) {
    int before = x.feed(0, 0, 0, 0, 0);
    x.end(before < 0 ? 0 : before - 20);
    int length = before < 0 ? 0 : before - 20;
    for (int i = 0; i < text.length(); i += 20)
      x.feed(four(text, i), four(text, i + 4), four(text, i + 8), four(text, i + 12), four(text, i + 16));
    x.end(length + text.length());
  }

  private static int four(String text, int from) {
    int n = 0;
    for (int i = from; i < from + 4; i++) n = n << 8 | (i < text.length() ? text.charAt(i) & 255 : 32);
    return n;
  }

  static int net(GateGroup x, String text) { tape(x, text); return x.net(); }
  static int plan(GateGroup x, String text) { tape(x, text); return x.plan(); }

  /** An object with a NET, and a PLAN if there is a second text. */
  static GateGroup of(String... texts) {
    GateGroup x = new GateGroup();
    if (net(x, texts[0]) < 0) { wrong++; System.out.println("no NET: " + texts[0] + " FAULT " + x.fault(0) + " at " + x.fault(1)); }
    if (texts.length > 1 && plan(x, texts[1]) < 0) { wrong++; System.out.println("no PLAN: " + texts[1] + " FAULT " + x.fault(0) + " at " + x.fault(1)); }
    return x;
  }

  /** As many TICKS as need be for this one to be now. */
  static GateGroup till(GateGroup x, int tick) {
    while (x.has(5) < tick && x.ticks(Math.min(500, tick - x.has(5))) > 0) { }
    due("till " + tick, x.has(5), tick);
    return x;
  }

  static void finish(String name) {
    System.out.println(name + ": " + asked + " answers, " + wrong + " not as due");
    if (wrong != 0) System.exit(1);
  }
}
