/** Promises 20 to 27: who holds what, and load. */
public final class HoldTest {
  public static void main(String[] args) {
    holders();
    nobody();
    spread();
    spreadInParts();
    noShares();
    oneSlot();
    noneSuch();
    Kit.finish("HoldTest");
  }

  static void due(String call, long got, long want) { Kit.due(call, got, want); }

  static void holders() {
    GateGroup x = Kit.of("gate a;gate b;gate c;link l;group g every 5;group h every 5;member a of g word 255;member b of g word 255;member c of g word 9;"
        + "member a of h word 100;member b of h word 90;");
    due("21 g is DOUBLE", x.doubles(), 1);
    due("20 the STRONGEST", x.holder(0, 2), 1);
    due("20 of no MEMBER's PART", x.holder(1, 2), -1);
    due("22 h has none", x.orphans(), 2);
    due("23", x.holds(0), 1);
    due("23", x.holds(1), 1);
    due("23", x.holds(2), 0);
    x.split(1);
    due("21 one in each PART", x.doubles(), 0);
    due("20 a's", x.holder(0, 0), 0);
    due("20 c's", x.holder(0, 2), 1);
    x.split(4);
    due("21 both in PART 0", x.doubles(), 1);
    due("20 none in c's", x.holder(0, 2), -1);
    x.split(3);
    due("21 both in PART 1", x.doubles(), 1);
    x.split(0);
    x.word(0, 1, 200);
    due("20 STRONGEST by WORD now", x.holder(0, 2), 0);
    x.ticks(30);
    due("21", x.doubles(), 0);
    due("22", x.orphans(), 0);
    due("23 both GROUPS", x.holds(0), 3);
    due("20 PART of one that is down", x.down(2, false) == 0 ? x.holder(1, 2) : -5, 0);
    x.down(0, false);
    due("22 both", x.orphans(), 3);
    x.down(1, false);
    due("22 no MEMBER is up", x.orphans(), 0);
    due("20 nobody", x.holder(0, 0), -1);
  }

  static void nobody() {
    GateGroup x = Kit.of("gate a;group g every 5;");
    due("22 no MEMBER", x.orphans(), 0);
    due("21", x.doubles(), 0);
    due("20", x.holder(0, 0), -1);
    due("23", x.holds(0), 0);
    due("24 nobody", x.slot(0, 0, 0), -1);
    due("25", x.slots(0, 0), 0);
    due("26 by none", x.host(0, 0, 0), -1);
    due("27", x.load(0, 0, 9999), 0);
  }

  /** Shares 5, 3, 1: 5, 3, 5/2, 5/3, 3/2, 5/4, 1 (a, as 5/5, ahead of b, c by its number), .. */
  static void spread() {
    GateGroup x = Kit.of("gate a;gate b;gate c;gate d;group g every 5 slots 8;member a of g word 1 share 5;member b of g word 2 share 3;member c of g word 3;");
    int[] owner = {0, 1, 0, 0, 1, 0, 0, 1};
    for (int s = 0; s < 8; s++) due("24 slot " + s, x.slot(0, 3, s), owner[s]);
    due("25", x.slots(0, 0), 5);
    due("25", x.slots(0, 1), 3);
    due("25", x.slots(0, 2), 0);
    due("25 no MEMBER", x.slots(0, 3), 0);
    for (int h = 0; h < 40; h++) due("26 host " + h, x.host(0, 0, h), owner[h % 8]);
    due("26 the last one", x.host(0, 0, Integer.MAX_VALUE), owner[7]);
    int[] byA = {0, 1, 1, 2, 3, 3, 4, 5, 5, 6};
    for (int n = 1; n < 10; n++) due("27 load a " + n, x.load(0, 0, n), byA[n]);
    due("27", x.load(0, 1, 9999), 3 * 1249 + 2);
    due("27", x.load(0, 0, 9999), 5 * 1249 + 5);
    due("27", x.load(0, 3, 100), 0);
    x.down(0, false);
    int[] without = {1, 1, 1, 2, 1, 1, 1, 2};
    // 3, 3/2, 1 (b, like c, by its number), c 1, 3/4, 3/5, 1/2 (b 3/6 and c 1/2), c
    for (int s = 0; s < 8; s++) due("24 slot " + s, x.slot(0, 0, s), without[s]);
    due("25 it is down", x.slots(0, 0), 0);
    due("27 it is down", x.load(0, 0, 50), 0);
    due("25", x.slots(0, 1), 6);
  }

  static void spreadInParts() {
    GateGroup x = Kit.of("gate a;gate b;gate c;group g every 5 slots 4;member a of g word 1 share 2;member b of g word 2 share 2;member c of g word 3 share 99;");
    due("25", x.slots(0, 2), 4);
    x.split(4);
    due("25 c alone", x.slots(0, 2), 4);
    due("25 a", x.slots(0, 0), 2);
    due("25 b", x.slots(0, 1), 2);
    due("24 in a's PART", x.slot(0, 0, 1), 1);
    due("24 in c's PART", x.slot(0, 2, 1), 2);
    due("26 in b's PART", x.host(0, 1, 6), 0);
    due("27", x.load(0, 1, 7), 3);
    x.down(2, false);
    due("24 nobody in c's", x.slot(0, 2, 0), -1);
    due("26 by none", x.host(0, 2, 0), -1);
  }

  static void noShares() {
    GateGroup x = Kit.of("gate a;gate b;group g every 5 slots 2;member a of g word 9 share 0;member b of g word 2 share 1;");
    due("24", x.slot(0, 0, 0), 1);
    due("24", x.slot(0, 0, 1), 1);
    due("25 no share", x.slots(0, 0), 0);
    x.down(1, false);
    due("24 nobody", x.slot(0, 0, 0), -1);
    due("25", x.slots(0, 1), 0);
  }

  static void oneSlot() {
    String net = "gate a;gate b;group g every 5;member a of g word 9;member b of g word 2 share 7;";
    due("27 all by b", Kit.of(net).load(0, 1, 9999), 9999);
    due("27 none by a", Kit.of(net).load(0, 0, 1), 0);
    due("26", Kit.of(net).host(0, 0, 5), 1);
    due("25", Kit.of(net).slots(0, 1), 1);
    due("24", Kit.of(net).slot(0, 0, 0), 1);
    due("24 none such", Kit.of(net).slot(0, 0, 1), -1);
  }

  static void noneSuch() {
    GateGroup x = Kit.of("gate a;gate b;group g every 5 slots 2;member a of g word 9;");
    int[][] pairs = {{-1, 0}, {1, 0}, {0, -1}, {0, 2}, {5, 0}, {0, 6}, {Integer.MAX_VALUE, 0}, {0, Integer.MIN_VALUE}};
    for (int[] p : pairs) {
      due("20", x.holder(p[0], p[1]), -1);
      due("24", x.slot(p[0], p[1], 0), -1);
      due("25", x.slots(p[0], p[1]), -1);
      due("26", x.host(p[0], p[1], 0), -1);
      due("27", x.load(p[0], p[1], 1), -1);
    }
    due("23", x.holds(-1), -1);
    due("23", x.holds(2), -1);
    due("24", x.slot(0, 0, 2), -1);
    due("24", x.slot(0, 0, -1), -1);
    due("24", x.slot(0, 0, Integer.MAX_VALUE), -1);
    due("26", x.host(0, 0, -1), -1);
    due("26", x.host(0, 0, Integer.MIN_VALUE), -1);
    due("27", x.load(0, 0, 0), -1);
    due("27", x.load(0, 0, 10000), -1);
    due("27", x.load(0, 0, 9999), 9999);
    due("27", x.load(0, 0, -5), -1);
  }
}
