import java.util.ArrayList;
import java.util.Arrays;
import java.util.HashMap;
import java.util.List;
import java.util.Map;

/**
 * The document told a second time, as plainly as can be: every TICK by itself, every GROUP, copies of
 * all for every image and every paper. ModelTest asks it and GateGroup the same things.
 */
final class Model {
  static final String OWN =
      " gate link group every delay keeps slots member of word share track by less at up down cut mend split heal ";

  // ---- texts

  static final class Token {
    final String text; final int place; final boolean odd;
    Token(String text, int place, boolean odd) { this.text = text; this.place = place; this.odd = odd; }
    boolean isWord() { return !odd && text.matches("[a-z]{1,6}"); }
    boolean isNumber() { return !odd && text.matches("[0-9]{1,4}"); }
    boolean isName() { return isWord() && !OWN.contains(" " + text + " "); }
  }

  static final class Bad extends RuntimeException {
    private static final long serialVersionUID = 1L;
  }

  static class Text {
    final List<Token> tokens = new ArrayList<>();
    final List<int[]> faults = new ArrayList<>();
    final int length;
    int i = 0;

    Text(int[] bytes, int length) {
      this.length = length;
      StringBuilder all = new StringBuilder();
      for (int k = 0; k < length; k++) all.append((char) bytes[k]);
      java.util.regex.Matcher m =
          java.util.regex.Pattern.compile("[a-z]+|[0-9]+|[^\\n ]", java.util.regex.Pattern.DOTALL).matcher(all);
      int behind = -1;
      while (m.find()) {
        String t = m.group();
        boolean solid = Character.isLetterOrDigit(t.charAt(0)) && t.charAt(0) < 128;
        boolean odd = solid && m.start() == behind;
        tokens.add(new Token(t, m.start(), odd));
        behind = t.matches("[a-z]+|[0-9]+") ? m.end() : -1;
      }
    }

    Token peek() { return i < tokens.size() ? tokens.get(i) : new Token("", length, true); }
    boolean over() { return i >= tokens.size(); }
    void fault(int n, int place) { faults.add(new int[] {place, n}); }
    Bad bad() { fault(1, peek().place); return new Bad(); }
    boolean sees(String w) { return !peek().odd && peek().text.equals(w); }
    boolean skips(String w) { if (sees(w)) { i++; return true; } return false; }
    void must(String w) { if (!skips(w)) throw bad(); }
    int number(int low, int high) {
      if (!peek().isNumber()) throw bad();
      int n = Integer.parseInt(peek().text);
      if (n < low || n > high) fault(4, peek().place);
      i++;
      return n;
    }
    Token name() { if (!peek().isName()) throw bad(); return tokens.get(i++); }
    Integer known(Map<String, Integer> of) {
      Token t = name();
      Integer k = of.get(t.text);
      if (k == null) fault(3, t.place);
      return k;
    }
    int[] least() {
      int[] best = null;
      for (int[] f : faults) if (best == null || f[0] < best[0] || f[0] == best[0] && f[1] < best[1]) best = f;
      return best;
    }
  }

  static final class Group { String name; int every, delay, slots = 1; boolean keeps; }
  static final class Track { int group, gate, link, less; }
  static final class Event { int at, what, whom = -1, group = -1, word = -1; }
  static final class Member { int told, share = 1, how, clock, wish = -1;
    Member copy() { Member m = new Member(); m.told = told; m.share = share; m.how = how; m.clock = clock; m.wish = wish; return m; } }

  static final class Net {
    final Map<String, Integer> gates = new HashMap<>(), links = new HashMap<>(), groups = new HashMap<>();
    final List<String> gateNames = new ArrayList<>(), linkNames = new ArrayList<>();
    final List<Group> rows = new ArrayList<>();
    final List<Track> tracks = new ArrayList<>();
    final Map<Integer, Member> members = new HashMap<>();
  }

  // ---- all that changes

  static final class World {
    Net net;
    int tick, part, cuts, chance, sent, lost;
    long x = 1;
    boolean[] up;
    Map<Integer, Member> members = new HashMap<>();
    List<Event> plan = new ArrayList<>();
    List<int[]> log = new ArrayList<>();
    int[] gaps, doubles, takes;

    World copy() {
      World w = new World();
      w.net = net; w.tick = tick; w.part = part; w.cuts = cuts; w.chance = chance; w.sent = sent; w.lost = lost; w.x = x;
      w.up = up.clone();
      for (Map.Entry<Integer, Member> e : members.entrySet()) w.members.put(e.getKey(), e.getValue().copy());
      w.plan = plan;
      w.log = new ArrayList<>(log);
      w.gaps = gaps.clone(); w.doubles = doubles.clone(); w.takes = takes.clone();
      return w;
    }

    Member at(int g, int gate) { return members.get(g * 100 + gate); }
    int groups() { return net.rows.size(); }
    int gates() { return net.gateNames.size(); }

    int weight(int g, int gate) {
      Member m = at(g, gate);
      if (m.told == 255) return 255;
      int w = m.told;
      for (Track t : net.tracks) if (t.group == g && t.gate == gate && (cuts & 1 << t.link) != 0) w -= t.less;
      return Math.max(1, w);
    }
    int skew(int g, int gate) { return net.rows.get(g).every * (256 - weight(g, gate)) / 256; }
    int patience(int g, int gate) { return 3 * net.rows.get(g).every + skew(g, gate); }
    boolean stronger(int g, int a, int b) {
      return weight(g, a) != weight(g, b) ? weight(g, a) > weight(g, b) : a > b;
    }
    boolean together(int a, int b) { return (part >> a & 1) == (part >> b & 1); }

    void note(int g, int gate, int what) { log.add(new int[] {tick, g, gate, what}); }
    void beginHold(int g, int gate) {
      Member m = at(g, gate);
      m.how = 2; m.clock = 0; m.wish = -1; takes[g]++; note(g, gate, 0);
    }
    void beginWait(int g, int gate) { Member m = at(g, gate); m.how = 1; m.clock = patience(g, gate); m.wish = -1; }
    void enter(int g, int gate) { if (weight(g, gate) == 255) beginHold(g, gate); else beginWait(g, gate); }

    void start() {
      up = new boolean[gates()];
      Arrays.fill(up, true);
      gaps = new int[groups()]; doubles = new int[groups()]; takes = new int[groups()];
      for (Map.Entry<Integer, Member> e : net.members.entrySet()) members.put(e.getKey(), e.getValue().copy());
      for (int g = 0; g < groups(); g++)
        for (int k = 0; k < gates(); k++) if (at(g, k) != null) enter(g, k);
    }

    void comesUp(int gate) {
      up[gate] = true;
      for (int g = 0; g < groups(); g++) if (at(g, gate) != null) enter(g, gate);
    }

    int goesDown(int gate, boolean gently) {
      int n = 0;
      for (int g = 0; g < groups(); g++) {
        Member m = at(g, gate);
        if (m == null) continue;
        if (m.how == 2) {
          n++;
          if (gently) {
            sent++;
            for (int k = 0; k < gates(); k++) {
              Member r = at(g, k);
              if (r == null || k == gate || r.how != 1 || !together(k, gate)) continue;
              int s = Math.max(1, skew(g, k));
              if (s < r.clock) r.clock = s;
            }
          }
          note(g, gate, 2);
        }
        m.how = 0; m.clock = 0; m.wish = -1;
      }
      up[gate] = false;
      return n;
    }

    void event(Event e) {
      if (e.what == 0 && !up[e.whom]) comesUp(e.whom);
      if (e.what == 1 && up[e.whom]) goesDown(e.whom, false);
      if (e.what == 2) cuts |= 1 << e.whom;
      if (e.what == 3) cuts &= ~(1 << e.whom);
      if (e.what == 4) part = e.whom;
      if (e.what == 5) part = 0;
      if (e.what == 6) at(e.group, e.whom).told = e.word;
    }

    /** One TICK; true if one began to HOLD or gave up in it. */
    boolean tick() {
      int before = log.size();
      for (Event e : plan) if (e.at == tick) event(e);
      for (int g = 0; g < groups(); g++) {
        List<int[]> letters = new ArrayList<>();
        int every = net.rows.get(g).every;
        for (int k = 0; k < gates(); k++) {
          Member m = at(g, k);
          if (m == null) continue;
          if (m.how == 2 && m.clock == 0) {
            letters.add(new int[] {k, weight(g, k)}); m.clock = every;
          } else if (m.how == 1 && m.clock <= 0) {
            beginHold(g, k); letters.add(new int[] {k, weight(g, k)}); m.clock = every;
          }
        }
        sent += letters.size();
        for (int k = 0; k < gates(); k++) if (at(g, k) != null && at(g, k).how != 0) at(g, k).clock--;
        for (int[] l : letters)
          for (int k = 0; k < gates(); k++) {
            Member m = at(g, k);
            if (m == null || k == l[0] || m.how == 0 || !together(k, l[0])) continue;
            if (chance != 0) {
              x = (1103515245L * x + 12345) % (1L << 31);
              if (Math.floorDiv(x, 64L) % 100 < chance) { lost++; continue; }
            }
            read(g, k, m, l[0], l[1]);
          }
      }
      for (int g = 0; g < groups(); g++) {
        if (holders(g) == 0 && memberUp(g)) gaps[g]++;
        if (isDouble(g)) doubles[g]++;
      }
      boolean stir = false;
      for (int i = before; i < log.size(); i++) stir |= log.get(i)[3] != 2;
      tick++;
      return stir;
    }

    void read(int g, int k, Member m, int sender, int word) {
      int own = weight(g, k);
      boolean stronger = word > own || word == own && sender > k;
      Group group = net.rows.get(g);
      if (m.how == 2) {
        if (stronger) { note(g, k, 1); beginWait(g, k); }
      } else if (stronger || group.keeps) {
        m.clock = patience(g, k); m.wish = -1;
      } else {
        if (m.wish < 0) m.wish = tick;
        if (tick - m.wish >= group.delay) beginHold(g, k);
        else m.clock = patience(g, k);
      }
    }

    int holders(int g) {
      int bits = 0;
      for (int k = 0; k < gates(); k++) if (at(g, k) != null && at(g, k).how == 2) bits |= 1 << k;
      return bits;
    }
    boolean memberUp(int g) {
      for (int k = 0; k < gates(); k++) if (at(g, k) != null && up[k]) return true;
      return false;
    }
    boolean isDouble(int g) {
      int[] n = new int[2];
      for (int k = 0; k < gates(); k++) if ((holders(g) >> k & 1) == 1) n[part >> k & 1]++;
      return n[0] > 1 || n[1] > 1;
    }
    /** THE HOLDER beside a GATE, without one other. */
    int holder(int g, int gate, int without) {
      int best = -1;
      for (int k = 0; k < gates(); k++) {
        if (k == without || (holders(g) >> k & 1) == 0 || !together(k, gate)) continue;
        if (best < 0 || stronger(g, k, best)) best = k;
      }
      return best;
    }
    int ups() { int b = 0; for (int k = 0; k < gates(); k++) if (up[k]) b |= 1 << k; return b; }

    int[] spread(int g, int gate) {
      int n = net.rows.get(g).slots;
      int[] owner = new int[n];
      int[] got = new int[gates()];
      for (int s = 0; s < n; s++) {
        int best = -1;
        for (int k = 0; k < gates(); k++) {
          Member m = at(g, k);
          if (m == null || !up[k] || !together(k, gate) || m.share <= 0) continue;
          if (best < 0 || (double) m.share / (got[k] + 1) > (double) at(g, best).share / (got[best] + 1) + 1e-9) best = k;
        }
        owner[s] = best;
        if (best >= 0) got[best]++;
      }
      return owner;
    }
  }

  // ---- the face

  final int[] tape = new int[1500];
  int length;
  int fault = 0, place = -1;
  World now;
  List<World> acts = new ArrayList<>();
  World[] kept = new World[2];

  int feed(int a, int b, int c, int d, int e) {
    if (length + 20 > 1500) return -1;
    for (int n : new int[] {a, b, c, d, e})
      for (int s = 24; s >= 0; s -= 8) tape[length++] = n >>> s & 255;
    return length;
  }

  boolean end(int n) { if (n < 0 || n > length) return false; length = n; return true; }

  int net() {
    Text t = new Text(tape, length);
    length = 0;
    Net net = new Net();
    try {
      int told = 0;
      while (!t.over()) { statement(t, net, told++); t.must(";"); }
    } catch (Bad b) { /* its FAULT is among the others */ }
    int[] f = t.least();
    fault = f == null ? 0 : f[1];
    place = f == null ? -1 : f[0];
    if (f != null) return -1;
    now = new World();
    now.net = net;
    now.start();
    acts.clear();
    kept = new World[2];
    return net.rows.size();
  }

  static void fresh(Text t, Net net, Map<String, Integer> into, List<String> names) {
    Token n = t.name();
    if (net.gates.containsKey(n.text) || net.links.containsKey(n.text) || net.groups.containsKey(n.text)) t.fault(2, n.place);
    else into.put(n.text, into.size());
    names.add(n.text);
  }

  static void statement(Text t, Net net, int told) {
    int first = t.peek().place;
    if (told >= 60 && (t.sees("gate") || t.sees("link") || t.sees("group") || t.sees("member") || t.sees("track"))) t.fault(6, first);
    if (t.skips("gate")) {
      if (net.gateNames.size() >= 6) t.fault(6, first);
      fresh(t, net, net.gates, net.gateNames);
    } else if (t.skips("link")) {
      if (net.linkNames.size() >= 8) t.fault(6, first);
      fresh(t, net, net.links, net.linkNames);
    } else if (t.skips("group")) {
      if (net.rows.size() >= 5) t.fault(6, first);
      List<String> names = new ArrayList<>();
      fresh(t, net, net.groups, names);
      Group g = new Group();
      g.name = names.get(0);
      t.must("every");
      g.every = t.number(1, 40);
      if (t.skips("delay")) g.delay = t.number(0, 99);
      else if (t.skips("keeps")) g.keeps = true;
      if (t.skips("slots")) g.slots = t.number(1, 8);
      net.rows.add(g);
    } else if (t.skips("member")) {
      int where = t.peek().place;
      Integer gate = t.known(net.gates);
      t.must("of");
      Integer group = t.known(net.groups);
      boolean good = gate != null && group != null;
      if (good && net.members.containsKey(group * 100 + gate)) t.fault(5, where);
      Member m = new Member();
      t.must("word");
      m.told = t.number(1, 255);
      if (t.skips("share")) m.share = t.number(0, 99);
      if (good) net.members.put(group * 100 + gate, m);
    } else if (t.skips("track")) {
      if (net.tracks.size() >= 24) t.fault(6, first);
      int member = pair(t, net);
      t.must("by");
      int where = t.peek().place;
      Integer link = t.known(net.links);
      Track k = new Track();
      k.group = member / 100; k.gate = member % 100; k.link = link == null ? -1 : link;
      for (Track o : net.tracks) if (o.group == k.group && o.gate == k.gate && o.link == k.link) t.fault(5, where);
      t.must("less");
      k.less = t.number(1, 254);
      net.tracks.add(k);
    } else throw t.bad();
  }

  static int pair(Text t, Net net) {
    Integer gate = t.known(net.gates);
    t.must("of");
    int where = t.peek().place;
    Integer group = t.known(net.groups);
    if (gate == null || group == null) return -1;
    if (!net.members.containsKey(group * 100 + gate)) t.fault(5, where);
    return group * 100 + gate;
  }

  int plan() {
    Text t = new Text(tape, length);
    length = 0;
    if (now == null) return -2;
    List<Event> plan = new ArrayList<>();
    try {
      int latest = 0;
      while (!t.over()) {
        int first = t.peek().place;
        t.must("at");
        if (plan.size() >= 20) t.fault(6, first);
        Event e = new Event();
        int where = t.peek().place;
        e.at = t.number(0, 9999);
        if (e.at < latest) t.fault(4, where);
        latest = e.at;
        eventText(t, e);
        t.must(";");
        plan.add(e);
      }
    } catch (Bad b) { /* its FAULT is among the others */ }
    int[] f = t.least();
    fault = f == null ? 0 : f[1];
    place = f == null ? -1 : f[0];
    if (f != null) return -1;
    save();
    now.plan = plan;
    return plan.size();
  }

  void eventText(Text t, Event e) {
    Net net = now.net;
    String[] words = {"up", "down", "cut", "mend"};
    for (int i = 0; i < 4; i++)
      if (t.skips(words[i])) {
        e.what = i;
        Integer k = t.known(i < 2 ? net.gates : net.links);
        e.whom = k == null ? -1 : k;
        return;
      }
    if (t.skips("split")) {
      e.what = 4; e.whom = 0;
      do {
        int where = t.peek().place;
        Integer k = t.known(net.gates);
        if (k != null && (e.whom >> k & 1) == 1) t.fault(5, where);
        if (k != null) e.whom |= 1 << k;
      } while (!t.sees(";"));
    } else if (t.skips("heal")) {
      e.what = 5;
    } else if (t.skips("word")) {
      e.what = 6;
      int m = pair(t, net);
      e.group = m / 100; e.whom = m % 100;
      e.word = t.number(1, 255);
    } else throw t.bad();
  }

  int fault(int what) { return what == 0 ? fault : what == 1 ? place : -1; }

  boolean isGate(int k) { return now != null && k >= 0 && k < now.gates(); }
  boolean isLink(int k) { return now != null && k >= 0 && k < now.net.linkNames.size(); }
  boolean isGroup(int k) { return now != null && k >= 0 && k < now.groups(); }
  boolean isMember(int g, int k) { return isGroup(g) && isGate(k) && now.at(g, k) != null; }

  int has(int what) {
    if (now == null || what < 0 || what > 15) return -1;
    return new int[] {now.gates(), now.net.linkNames.size(), now.groups(), now.members.size(), now.net.tracks.size(),
        now.tick, now.ups(), now.cuts, now.part, now.chance, (int) now.x, now.plan.size(), Math.min(60, now.log.size()),
        acts.size(), now.sent, now.lost}[what];
  }

  int group(int g, int what) {
    if (!isGroup(g) || what < 0 || what > 8) return -1;
    Group r = now.net.rows.get(g);
    int bits = 0;
    for (int k = 0; k < 6; k++) if (isMember(g, k)) bits |= 1 << k;
    return new int[] {r.every, r.delay, r.keeps ? 1 : 0, r.slots, bits, now.gaps[g], now.doubles[g], now.takes[g], now.holders(g)}[what];
  }

  int member(int g, int k, int what) {
    if (!isMember(g, k) || what < 0 || what > 7) return -1;
    Member m = now.at(g, k);
    return new int[] {m.told, now.weight(g, k), m.share, m.how, m.clock, now.skew(g, k), now.patience(g, k), m.wish}[what];
  }

  int letter(int sort, int k, int i) {
    if (i < 0 || i > 5) return -1;
    String n = sort == 0 && isGate(k) ? now.net.gateNames.get(k) : sort == 1 && isLink(k) ? now.net.linkNames.get(k)
        : sort == 2 && isGroup(k) ? now.net.rows.get(k).name : null;
    return n == null ? -1 : i < n.length() ? n.charAt(i) - 96 : 0;
  }

  int track(int k, int what) {
    if (now == null || k < 0 || k >= now.net.tracks.size() || what < 0 || what > 3) return -1;
    Track t = now.net.tracks.get(k);
    return new int[] {t.group, t.gate, t.link, t.less}[what];
  }

  int event(int k, int what) {
    if (now == null || k < 0 || k >= now.plan.size() || what < 0 || what > 4) return -1;
    Event e = now.plan.get(k);
    return new int[] {e.at, e.what, e.whom, e.group, e.word}[what];
  }

  void save() { acts.add(now.copy()); if (acts.size() > 12) acts.remove(0); }

  int ticks(int n) {
    if (now == null || n < 1 || n > 500 || now.tick + n > 9999) return -2;
    save();
    for (int i = 0; i < n; i++) now.tick();
    return now.tick;
  }
  int up(int k) { if (!isGate(k)) return -2; if (now.up[k]) return -3; save(); now.comesUp(k); return 1; }
  int down(int k, boolean gently) { if (!isGate(k)) return -2; if (!now.up[k]) return -3; save(); return now.goesDown(k, gently); }
  int cut(int l, boolean is) {
    if (!isLink(l)) return -2;
    if (((now.cuts >> l & 1) == 1) == is) return -3;
    save();
    now.cuts ^= 1 << l;
    return 1;
  }
  int split(int bits) {
    if (now == null || bits < 0 || bits >= 1 << now.gates()) return -2;
    if (bits == now.part) return -3;
    save();
    now.part = bits;
    return 1;
  }
  int word(int g, int k, int v) {
    if (!isMember(g, k) || v < 1 || v > 255) return -2;
    save();
    int was = now.at(g, k).told;
    now.at(g, k).told = v;
    return was;
  }
  int chance(int v, int seed) {
    if (now == null || v < 0 || v > 99 || seed < 0) return -2;
    save();
    now.chance = v; now.x = seed;
    return 1;
  }

  int holder(int g, int k) { return isGroup(g) && isGate(k) ? now.holder(g, k, -1) : -1; }
  int doubles() {
    if (now == null) return -1;
    int b = 0;
    for (int g = 0; g < now.groups(); g++) if (now.isDouble(g)) b |= 1 << g;
    return b;
  }
  int orphans() {
    if (now == null) return -1;
    int b = 0;
    for (int g = 0; g < now.groups(); g++) if (now.holders(g) == 0 && now.memberUp(g)) b |= 1 << g;
    return b;
  }
  int holds(int k) {
    if (!isGate(k)) return -1;
    int b = 0;
    for (int g = 0; g < now.groups(); g++) b |= (now.holders(g) >> k & 1) << g;
    return b;
  }

  int slot(int g, int k, int s) {
    if (!isGroup(g) || !isGate(k) || s < 0 || s >= now.net.rows.get(g).slots) return -1;
    return now.spread(g, k)[s];
  }
  int slots(int g, int k) {
    if (!isGroup(g) || !isGate(k)) return -1;
    int n = 0;
    for (int o : now.spread(g, k)) if (o == k) n++;
    return n;
  }
  int host(int g, int k, int h) {
    if (!isGroup(g) || !isGate(k) || h < 0) return -1;
    int[] o = now.spread(g, k);
    return o[h % o.length];
  }
  int load(int g, int k, int n) {
    if (!isGroup(g) || !isGate(k) || n < 1 || n > 9999) return -1;
    int[] o = now.spread(g, k);
    int c = 0;
    for (int h = 0; h < n; h++) if (o[h % o.length] == k) c++;
    return c;
  }

  World after(World w, int n) { for (int i = 0; i < n; i++) w.tick(); return w; }
  boolean within(int n) { return now != null && now.tick + n <= 9999; }
  boolean span(int n) { return n >= 1 && n <= 500 && within(n); }

  int ahead(int g, int n) {
    if (!isGroup(g) || n < 0 || n > 500 || !within(n)) return -1;
    return after(now.copy(), n).holders(g);
  }
  int fails(int g, int k, int what) {
    if (!isGroup(g) || !isGate(k) || !now.up[k] || what < 0 || what > 1) return -1;
    World w = now.copy();
    w.goesDown(k, false);
    for (int n = 0; n <= 500 && now.tick + n <= 9999; n++) {
      if (w.holder(g, k, k) >= 0) return what == 0 ? n : w.holder(g, k, k);
      w.tick();
    }
    return -1;
  }
  int worst(int g, int what) {
    if (!isGroup(g) || what < 0 || what > 1) return -1;
    List<int[]> all = new ArrayList<>();
    for (int k = 0; k < now.gates(); k++) if (isMember(g, k) && now.up[k]) all.add(new int[] {fails(g, k, 0), k});
    for (int[] f : all) if (f[0] < 0) return what == 0 ? -1 : f[1];
    int[] best = {-1, -1};
    for (int[] f : all) if (f[0] > best[0]) best = f;
    return best[what];
  }
  int settles() {
    if (!within(600)) return -1;
    World w = now.copy();
    boolean[] stir = new boolean[600];
    for (int i = 0; i < 600; i++) stir[i] = w.tick();
    for (int n = 0; n <= 500; n++) {
      boolean calm = true;
      for (int i = n; i < n + 100; i++) calm &= !stir[i];
      if (calm) return n;
    }
    return -1;
  }
  int least(int g, int k) {
    if (!isMember(g, k) || !within(300)) return -1;
    for (int v = 1; v <= 254; v++) {
      World w = now.copy();
      w.at(g, k).told = v;
      if ((after(w, 300).holders(g) >> k & 1) == 1) return v;
    }
    return -1;
  }
  int flaps(int g, int n) { return isGroup(g) && span(n) ? after(now.copy(), n).takes[g] - now.takes[g] : -1; }
  int needs(int g, int k) {
    if (!isGroup(g) || !isGate(k) || !within(300)) return -1;
    int plain = after(now.copy(), 300).holder(g, k, -1);
    int bits = 0;
    for (int l = 0; l < now.net.linkNames.size(); l++) {
      World w = now.copy();
      w.cuts |= 1 << l;
      if (after(w, 300).holder(g, k, -1) != plain) bits |= 1 << l;
    }
    return bits;
  }
  int letters(int n) { return span(n) ? after(now.copy(), n).sent - now.sent : -1; }
  int stands(int g, int k, int n) {
    if (!isMember(g, k) || !span(n)) return -1;
    World w = now.copy();
    int c = 0;
    for (int i = 0; i < n; i++) { w.tick(); if (w.at(g, k).how == 2) c++; }
    return c;
  }
  int returns(int g, int k) {
    if (!isMember(g, k) || now.up[k]) return -1;
    World w = now.copy();
    w.comesUp(k);
    for (int n = 0; n <= 500 && now.tick + n <= 9999; n++) { if (w.at(g, k).how == 2) return n; w.tick(); }
    return -1;
  }
  int under(int g, int k, int links) {
    if (!isGroup(g) || !isGate(k) || !within(300) || links < 0 || links >= 1 << now.net.linkNames.size()) return -1;
    World w = now.copy();
    w.cuts = links;
    return after(w, 300).holder(g, k, -1);
  }
  int rank(int g, int n) {
    if (!isGroup(g)) return -1;
    List<Integer> all = new ArrayList<>();
    for (int k = 0; k < now.gates(); k++) if (isMember(g, k)) all.add(k);
    all.sort((a, b) -> now.stronger(g, a, b) ? -1 : 1);
    return n >= 0 && n < all.size() ? all.get(n) : -1;
  }
  int log(int i, int what) {
    if (now == null || what < 0 || what > 3 || i < 0 || i >= 60 || i >= now.log.size()) return -1;
    return now.log.get(now.log.size() - 1 - i)[what];
  }
  int undo() {
    if (now == null) return -2;
    if (acts.isEmpty()) return -3;
    now = acts.remove(acts.size() - 1);
    return acts.size();
  }
  int keep(int k) { if (now == null || k < 0 || k > 1) return -2; kept[k] = now.copy(); return now.tick; }
  int back(int k) {
    if (now == null || k < 0 || k > 1) return -2;
    if (kept[k] == null) return -3;
    now = kept[k].copy();
    acts.clear();
    return now.tick;
  }
}
