import java.lang.reflect.Method;
import java.util.ArrayList;
import java.util.List;
import java.util.Random;

/** Random runs: GateGroup and the plain Model are asked the same and must answer the same. */
public final class ModelTest {
  static final int[] WILD = {Integer.MIN_VALUE, -2, -1, 0, 1, 2, 5, 6, 7, 8, 9, 30, 31, 32, 60, 63, 64, 99, 100, 254, 255, 256,
      300, 499, 500, 501, 600, 1500, 9998, 9999, 10000, Integer.MAX_VALUE - 1, Integer.MAX_VALUE};
  static final String[] ACTS = {"ticks", "ticks", "ticks", "ticks", "ticks", "up", "up", "up", "down", "cut", "split",
      "word", "chance"};
  static final String[] LOOKS = {"fault", "has", "group", "member", "letter", "track", "event", "holder", "doubles", "orphans",
      "holds", "slot", "slots", "host", "load", "ahead", "fails", "worst", "settles", "flaps", "needs", "letters", "stands",
      "returns", "under", "rank", "log"};
  static final String[] NAMES = {"a", "b", "c", "d", "e", "f", "l", "m", "n", "o", "p", "q", "r", "s", "g", "h", "i", "j", "k",
      "zz", "abcdef", "zyxwvu", "gates", "gat"};

  final Random random;
  final GateGroup real = new GateGroup();
  final Model model = new Model();
  final List<String> told = new ArrayList<>();

  ModelTest(long seed) { random = new Random(seed); }

  public static void main(String[] args) throws Exception {
    int runs = args.length > 0 ? Integer.parseInt(args[0]) : 150;
    int texts = args.length > 1 ? Integer.parseInt(args[1]) : 4000;
    for (int seed = 0; seed < runs; seed++) if (!new ModelTest(seed).play()) System.exit(1);
    for (int seed = 0; seed < texts; seed++) if (!new ModelTest(1_000_000L + seed).playTexts()) System.exit(1);
    System.out.println("GateGroup and the model answered alike in " + runs + " runs, " + texts + " runs of texts");
  }

  boolean play() throws Exception {
    boolean good = true;
    for (int i = 0; good && i < 20; i++) good = askWith(random.nextBoolean() ? ACTS[random.nextInt(ACTS.length)] : LOOKS[random.nextInt(LOOKS.length)]);
    good = good && both("undo") && both("keep", 0) && both("back", 0) && tellNet(0) && both("net");
    int late = random.nextInt(4) == 0 ? 17 + random.nextInt(4) : 0;
    for (int i = 0; good && i < late; i++) good = both("ticks", 500);
    for (int i = 0; good && i < 300; i++) good = turn() && (i % 8 > 0 || whole());
    return good;
  }

  boolean playTexts() throws Exception {
    boolean good = true;
    for (int i = 0; good && i < 3; i++) good = tellNet(i == 0 ? random.nextInt(2) : 1 + random.nextInt(3)) && both("net") && faults() && shape();
    for (int i = 0; good && i < 4; i++) good = tell(planText(random.nextInt(3))) && both("plan") && faults();
    for (int k = 0; good && k < 5; k++) for (int w = 0; good && w < 5; w++) good = both("event", k, w);
    return good;
  }

  boolean faults() throws Exception { return both("fault", 0) && both("fault", 1); }

  boolean shape() throws Exception {
    for (int w = 0; w < 16; w++) if (!both("has", w)) return false;
    for (int g = 0; g < 5; g++) for (int w = 0; w < 9; w++) if (!both("group", g, w)) return false;
    for (int k = 0; k < 4; k++) if (!both("track", k, random.nextInt(4))) return false;
    for (int i = 0; i < 10; i++) if (!both("letter", random.nextInt(3), random.nextInt(5), random.nextInt(6))) return false;
    for (int i = 0; i < 10; i++) if (!both("member", random.nextInt(5), random.nextInt(6), random.nextInt(8))) return false;
    return true;
  }

  /** All that can be looked at. */
  boolean whole() throws Exception {
    for (int w = 0; w < 16; w++) if (!both("has", w)) return false;
    if (model.now == null) return true;
    for (int g = 0; g < model.now.groups(); g++) {
      for (int w = 0; w < 9; w++) if (!both("group", g, w)) return false;
      for (int k = 0; k < model.now.gates(); k++) for (int w = 0; w < 8; w++) if (!both("member", g, k, w)) return false;
    }
    for (int i = 0; i < 61; i++) for (int w = 0; w < 4; w++) if (!both("log", i, w)) return false;
    for (int k = 0; k < 20; k++) for (int w = 0; w < 5; w++) if (!both("event", k, w)) return false;
    return true;
  }

  boolean turn() throws Exception {
    int dice = random.nextInt(400);
    if (dice < 1) return tellNet(random.nextInt(3)) && both("net") && faults();
    if (dice < 12) return tell(planText(random.nextInt(4) == 0 ? 1 : 0)) && both("plan") && faults();
    if (dice < 22) return both("undo");
    if (dice < 27) return both("keep", number(2));
    if (dice < 31) return both("back", number(2));
    if (dice == 31 && random.nextInt(3) == 0) return askWith("least");
    if (dice < 200) return askWith(ACTS[random.nextInt(ACTS.length)]);
    return askWith(LOOKS[random.nextInt(LOOKS.length)]);
  }

  boolean askWith(String name) throws Exception {
    int group = number(model.now == null ? 5 : Math.max(1, model.now.groups()));
    int gate = number(model.now == null ? 6 : Math.max(1, model.now.gates()));
    switch (name) {
      case "ticks": return both(name, random.nextInt(12) == 0 ? number(501) : random.nextInt(3) == 0 ? 1 + random.nextInt(60) : 1 + random.nextInt(9));
      case "up": case "holds": return both(name, gate);
      case "down": return both(name, gate, random.nextBoolean());
      case "cut": return both(name, number(model.now == null ? 8 : model.now.net.linkNames.size() + 1), random.nextBoolean());
      case "split": return both(name, random.nextInt(3) > 0 ? 0 : number(model.now == null ? 64 : 1 << model.now.gates()));
      case "word": return both(name, group, gate, random.nextInt(4) == 0 ? 254 + random.nextInt(3) : number(256));
      case "chance": return both(name, random.nextInt(3) == 0 ? 0 : number(100), random.nextInt(3) == 0 ? number(100) : random.nextInt());
      case "fault": return both(name, number(3));
      case "has": return both(name, number(17));
      case "group": return both(name, group, number(10));
      case "member": return both(name, group, gate, number(9));
      case "letter": return both(name, number(4), number(8), number(7));
      case "track": return both(name, number(24), number(5));
      case "event": return both(name, number(20), number(6));
      case "holder": case "slots": case "least": case "needs": case "returns": return both(name, group, gate);
      case "slot": return both(name, group, gate, number(9));
      case "host": return both(name, group, gate, number(100));
      case "load": return both(name, group, gate, number(200));
      case "ahead": case "flaps": return both(name, group, number(random.nextInt(3) == 0 ? 502 : 60));
      case "fails": return both(name, group, gate, number(3));
      case "worst": return both(name, group, number(3));
      case "letters": return both(name, number(502));
      case "stands": return both(name, group, gate, number(502));
      case "under": return both(name, group, gate, number(model.now == null ? 64 : 1 << model.now.net.linkNames.size()));
      case "rank": return both(name, group, number(7));
      case "log": return both(name, number(random.nextInt(3) == 0 ? 70 : 6), number(5));
      default: return both(name);
    }
  }

  int number(int below) { return random.nextInt(60) == 0 ? WILD[random.nextInt(WILD.length)] : random.nextInt(below); }

  boolean both(String name, Object... args) throws Exception {
    Class<?>[] types = new Class<?>[args.length];
    for (int i = 0; i < args.length; i++) types[i] = args[i] instanceof Boolean ? boolean.class : int.class;
    Method a = GateGroup.class.getMethod(name, types);
    Method b = Model.class.getDeclaredMethod(name, types);
    Object got = a.invoke(real, args);
    Object want = b.invoke(model, args);
    StringBuilder call = new StringBuilder(name).append(java.util.Arrays.toString(args)).append(" -> ").append(got);
    told.add(call.toString());
    if (got.equals(want)) return true;
    for (String t : told) System.out.println(t);
    System.out.println("due is " + want);
    return false;
  }

  // ---- texts

  boolean tellNet(int wild) throws Exception { return tell(netText(wild)); }

  boolean tell(String text) throws Exception {
    told.add("\"" + text + "\"");
    int length = Math.min(text.length(), 1500);
    for (int i = 0; i < length; i += 20) {
      Object[] five = new Object[5];
      for (int k = 0; k < 5; k++) {
        int n = 0;
        for (int j = 0; j < 4; j++) { int at = i + 4 * k + j; n = n << 8 | (at < length ? text.charAt(at) & 255 : 32); }
        five[k] = n;
      }
      if (!both("feed", five)) return false;
    }
    return both("end", length);
  }

  String pick(List<String> from) {
    return from.isEmpty() || random.nextInt(200) == 0 ? NAMES[random.nextInt(NAMES.length)] : from.get(random.nextInt(from.size()));
  }

  String netText(int wild) {
    List<String> all = new ArrayList<>(List.of(NAMES));
    if (wild == 0 || random.nextInt(3) > 0) java.util.Collections.shuffle(all, random);
    List<String> gates = new ArrayList<>(), links = new ArrayList<>(), groups = new ArrayList<>(), rows = new ArrayList<>();
    int gateCount = wild == 2 ? random.nextInt(8) : 1 + random.nextInt(6);
    int linkCount = wild == 2 ? random.nextInt(10) : random.nextInt(9);
    int groupCount = wild == 2 ? random.nextInt(7) : 1 + random.nextInt(5);
    for (int i = 0; i < gateCount; i++) { gates.add(all.remove(0)); rows.add("gate " + gates.get(i)); }
    for (int i = 0; i < linkCount; i++) { links.add(all.remove(0)); rows.add("link " + links.get(i)); }
    for (int i = 0; i < groupCount; i++) { groups.add(all.remove(0)); rows.add(groupText(groups.get(i))); }
    List<String[]> members = new ArrayList<>();
    for (String g : groups) for (String k : gates) if (random.nextInt(4) > 0) { members.add(new String[] {k, g}); }
    for (String[] m : members) {
      int word = random.nextInt(6) == 0 ? 255 : 1 + random.nextInt(random.nextBoolean() ? 254 : 10);
      rows.add("member " + m[0] + " of " + m[1] + " word " + word + (random.nextBoolean() ? " share " + random.nextInt(random.nextBoolean() ? 5 : 100) : ""));
    }
    int trackCount = members.isEmpty() || links.isEmpty() ? 0 : random.nextInt(wild == 2 ? 40 : 12);
    List<String> seen = new ArrayList<>();
    for (int i = 0; i < trackCount; i++) {
      String[] m = members.get(random.nextInt(members.size()));
      String t = "track " + m[0] + " of " + m[1] + " by " + pickPlain(links);
      if (seen.contains(t) && wild == 0) continue;
      seen.add(t);
      rows.add(t + " less " + (1 + random.nextInt(random.nextBoolean() ? 254 : 40)));
    }
    if (wild == 3) java.util.Collections.shuffle(rows, random);
    while (wild == 0 && (rows.size() > 60 || length(rows) > 1500)) rows.remove(rows.size() - 1);
    return finish(rows, wild);
  }

  String pickPlain(List<String> from) { return from.get(random.nextInt(from.size())); }

  static int length(List<String> rows) { int n = 0; for (String r : rows) n += r.length() + 1; return n; }

  String groupText(String name) {
    int every = random.nextInt(3) == 0 ? 1 + random.nextInt(40) : 1 + random.nextInt(5);
    String kind = new String[] {"", " keeps", " delay " + random.nextInt(100), " delay " + random.nextInt(12)}[random.nextInt(4)];
    return "group " + name + " every " + every + kind + (random.nextBoolean() ? " slots " + (1 + random.nextInt(8)) : "");
  }

  String planText(int wild) {
    List<String> gates = model.now == null ? List.of("a") : model.now.net.gateNames;
    List<String> links = model.now == null ? List.of("l") : model.now.net.linkNames;
    List<String> groups = new ArrayList<>();
    if (model.now != null) for (Model.Group g : model.now.net.rows) groups.add(g.name);
    List<String> rows = new ArrayList<>();
    int count = random.nextInt(wild > 0 ? 24 : 12);
    int at = model.now == null ? 0 : Math.max(0, model.now.tick - 10);
    for (int i = 0; i < count; i++) {
      at = Math.min(9999, at + random.nextInt(30));
      int told = wild > 1 && random.nextInt(15) == 0 ? random.nextInt(10001) : at;
      rows.add("at " + told + " " + eventText(gates, links, groups, wild));
    }
    return finish(rows, wild);
  }

  String eventText(List<String> gates, List<String> links, List<String> groups, int wild) {
    switch (random.nextInt(links.isEmpty() && wild == 0 ? 5 : 7)) {
      case 0: return "up " + pick(gates);
      case 1: return "down " + pick(gates);
      case 2: {
        StringBuilder s = new StringBuilder("split");
        List<String> some = new ArrayList<>(gates);
        java.util.Collections.shuffle(some, random);
        int n = Math.min(some.size(), 1 + random.nextInt(6));
        for (int i = 0; i < n; i++) s.append(' ').append(some.get(i));
        if (wild > 0 && random.nextInt(6) == 0) s.append(' ').append(pick(gates));
        return s.toString();
      }
      case 3: return "heal";
      case 4: {
        for (int tries = 0; tries < 20; tries++) {
          int g = groups.isEmpty() ? 0 : random.nextInt(groups.size());
          int k = random.nextInt(Math.max(1, gates.size()));
          if (wild > 0 && tries == 0 && random.nextInt(3) > 0) continue;
          if (model.isMember(g, k) || wild > 0 && !groups.isEmpty() && !gates.isEmpty())
            return "word " + gates.get(k) + " of " + groups.get(g) + " " + (wild > 0 ? random.nextInt(300) : 1 + random.nextInt(255));
        }
        return "heal";
      }
      case 5: return "cut " + pick(links);
      default: return "mend " + pick(links);
    }
  }

  /** Joins rows; wild ones are broken here and there. */
  String finish(List<String> rows, int wild) {
    StringBuilder s = new StringBuilder();
    for (String r : rows) {
      String[] words = r.split(" ");
      for (int i = 0; i < words.length; i++) {
        String w = words[i];
        if (wild > 0 && random.nextInt(60 * wild + 40) == 0) w = odd(w);
        if (i > 0) s.append(random.nextInt(30) == 0 ? "\n " : wild > 1 && random.nextInt(100) == 0 ? "" : " ");
        s.append(w);
      }
      s.append(wild > 0 && random.nextInt(150) == 0 ? "" : random.nextInt(20) == 0 ? " ;\n" : ";");
    }
    if (wild > 0 && random.nextInt(4) == 0 && s.length() > 0) s.setLength(random.nextInt(s.length()));
    if (wild > 0 && random.nextInt(6) == 0 && s.length() > 0) s.setCharAt(random.nextInt(s.length()), (char) random.nextInt(256));
    return s.toString();
  }

  String odd(String w) {
    String[] own = Model.OWN.trim().split(" ");
    switch (random.nextInt(8)) {
      case 0: return "";
      case 1: return own[random.nextInt(own.length)];
      case 2: return w + "x";
      case 3: return w + "7";
      case 4: return String.valueOf(random.nextInt(12000));
      case 5: return w + " " + w;
      case 6: return NAMES[random.nextInt(NAMES.length)];
      default: return w.substring(1) + ";";
    }
  }
}
