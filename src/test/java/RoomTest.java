import java.lang.management.ManagementFactory;

/** What a run makes: nothing but the object itself, however dear the calls are. */
public final class RoomTest {
  static final com.sun.management.ThreadMXBean COUNTER = (com.sun.management.ThreadMXBean) ManagementFactory.getThreadMXBean();

  public static void main(String[] args) {
    GateGroup first = new GateGroup();
    long before = made();
    GateGroup second = new GateGroup();
    long object = made() - before;
    // 600,000 objects and 7.3 million elements in one room: a hundred objects must leave most of it free
    Kit.due("an object is small: " + object, object < 70_000 && second != first, true);
    String net = text();
    Kit.net(first, net);
    calls(first);
    GateGroup x = new GateGroup();
    Kit.net(x, net);
    x.chance(20, 7);
    long from = made();
    calls(x);
    calls(x);
    long used = made() - from;
    Kit.due("calls make nothing: " + used, used < 2_000, true);
    Kit.finish("RoomTest");
  }

  static long made() { return COUNTER.getThreadAllocatedBytes(Thread.currentThread().getId()); }

  static String text() {
    StringBuilder s = new StringBuilder("gate a;gate b;gate c;gate d;gate e;gate f;link l;link m;");
    for (char g = 'g'; g <= 'k'; g++) {
      s.append("group ").append(g).append(" every 1 slots 8;");
      for (char k = 'a'; k <= 'f'; k++) s.append("member ").append(k).append(" of ").append(g).append(" word 9;");
    }
    return s.append("track a of g by l less 3;").toString();
  }

  static int sum = 0;

  static void calls(GateGroup x) {
    for (int i = 0; i < 30; i++) {
      sum += x.ticks(20) + x.down(1, true) + x.up(1) + x.cut(0, true) + x.cut(0, false) + x.split(3) + x.split(0) + x.word(0, 0, 7) + x.undo();
      sum += x.keep(0) + x.back(0) + x.has(5) + x.group(0, 1) + x.member(0, 0, 1) + x.letter(0, 0, 0) + x.track(0, 0) + x.event(0, 0) + x.log(0, 0);
      sum += x.holder(0, 0) + x.doubles() + x.orphans() + x.holds(0) + x.slot(0, 0, 0) + x.slots(0, 0) + x.host(0, 0, 0) + x.load(0, 0, 99);
      sum += x.ahead(0, 100) + x.fails(0, 0, 0) + x.worst(0, 0) + x.settles() + x.flaps(0, 100) + x.needs(0, 0) + x.letters(100);
      sum += x.stands(0, 0, 100) + x.returns(0, 0) + x.under(0, 0, 1) + x.rank(0, 3) + x.fault(0);
      sum += x.feed(0x67617465, 0x20613b67, 0, 0, 0) + (x.end(7) ? 1 : 0) + x.plan();
    }
    sum += x.least(0, 0);
  }
}
