/** A test for each sentence of Terms III on SLOTS and HOSTS and of promises 24 to 27 that names an edge. */
public final class EdgeLoadTest {
  static final int LEAST = Integer.MIN_VALUE;
  static final int MOST = Integer.MAX_VALUE;
  static final int[][] NO_PAIRS = {{-1, 0}, {1, 0}, {5, 0}, {0, -1}, {0, 3}, {0, 6}, {LEAST, 0}, {MOST, 0}, {0, LEAST}, {0, MOST}};

  public static void main(String[] args) throws Exception {
    Kit.runEach(EdgeLoadTest.class, "terms3", "promise24", "promise25", "promise26", "promise27");
  }

  static void due(String call, long got, long want) { Kit.due(call, got, want); }

  /** One GROUP whose MEMBERS a, b, c have these shares. */
  static GateGroup of(int slots, int... shares) {
    StringBuilder s = new StringBuilder("gate a;gate b;gate c;group g every 5 slots " + slots + ";");
    for (int k = 0; k < shares.length; k++) s.append("member " + (char) ('a' + k) + " of g word 7 share " + shares[k] + ";");
    return Kit.of(s.toString());
  }

  static void owners(GateGroup x, int gate, int... want) {
    for (int s = 0; s < want.length; s++) due("slot(0, " + gate + ", " + s + ")", x.slot(0, gate, s), want[s]);
    due("none behind them", x.slot(0, gate, want.length), -1);
  }

  static void terms3OfLikeOnesTheLeastNumber() {
    owners(of(8, 1, 1, 1), 0, 0, 1, 2, 0, 1, 2, 0, 1);
    owners(of(8, 99, 99), 0, 0, 1, 0, 1, 0, 1, 0, 1);
  }

  /** Of 3 and 2: 3, 2, 3/2, then 3/3 as 2/2, 2/2, 3/4, 2/3, 3/5. */
  static void terms3SharesAreNotCut() {
    owners(of(8, 3, 2), 0, 0, 1, 0, 0, 1, 0, 1, 0);
    owners(of(8, 2, 3), 0, 1, 0, 1, 0, 1, 1, 0, 1);
  }

  static void terms3GreatestAndLeastShare() {
    owners(of(8, 1, 99), 0, 1, 1, 1, 1, 1, 1, 1, 1);
    owners(of(8, 12, 99), 0, 1, 1, 1, 1, 1, 1, 1, 1);
    // 99 by 8 is 12.375
    owners(of(8, 13, 99), 0, 1, 1, 1, 1, 1, 1, 1, 0);
  }

  static void terms3ShareOf0GetsNone() {
    owners(of(4, 0, 1), 0, 1, 1, 1, 1);
    owners(of(4, 0, 0), 0, -1, -1, -1, -1);
    due("SLOTS of one with 0", of(4, 0, 1).slots(0, 0), 0);
    due("SLOTS of the other", of(4, 0, 1).slots(0, 1), 4);
    due("HOSTS of nobody", of(4, 0, 0).load(0, 0, 9999), 0);
  }

  static void terms3SlotsOfNobody() {
    GateGroup none = of(3);
    owners(none, 0, -1, -1, -1);
    due("SLOTS", none.slots(0, 0), 0);
    due("HOST", none.host(0, 0, 7), -1);
    due("load", none.load(0, 0, 7), 0);
    GateGroup x = of(2, 1, 1);
    x.down(0, false);
    owners(x, 0, 1, 1);
    x.down(1, false);
    owners(x, 0, -1, -1);
  }

  static void terms3InEachPart() {
    GateGroup x = of(4, 1, 2, 3);
    x.split(4);
    owners(x, 2, 2, 2, 2, 2);
    owners(x, 0, 1, 0, 1, 1);
    owners(x, 1, 1, 0, 1, 1);
    x.split(7);
    owners(x, 0, 2, 1, 2, 0);
    x.split(1);
    x.down(0, false);
    owners(x, 0, -1, -1, -1, -1);
  }

  static void terms3OneThatWaitsHasSlotsToo() {
    GateGroup x = of(2, 1, 1);
    due("nobody HOLDS", x.group(0, 8), 0);
    owners(x, 0, 0, 1);
  }

  static void promise24NoneSuch() {
    GateGroup x = of(8, 1, 1);
    for (int[] n : NO_PAIRS) due("slot(" + n[0] + ", " + n[1] + ")", x.slot(n[0], n[1], 0), -1);
    for (int s : new int[] {-1, 8, 9, LEAST, MOST}) due("SLOT " + s, x.slot(0, 0, s), -1);
    due("the last", x.slot(0, 0, 7), 1);
    due("one SLOT", of(1, 1).slot(0, 0, 0), 0);
    due("no second", of(1, 1).slot(0, 0, 1), -1);
    due("in the PART of one that is no MEMBER", x.slot(0, 2, 0), 0);
    due("without a NET", new GateGroup().slot(0, 0, 0), -1);
  }

  static void promise25DownOrNoMember() {
    GateGroup x = of(8, 1, 1);
    for (int[] n : NO_PAIRS) due("slots(" + n[0] + ", " + n[1] + ")", x.slots(n[0], n[1]), -1);
    due("half", x.slots(0, 1), 4);
    due("no MEMBER", x.slots(0, 2), 0);
    x.down(1, true);
    due("it is down", x.slots(0, 1), 0);
    due("all", x.slots(0, 0), 8);
    due("without a NET", new GateGroup().slots(0, 0), -1);
  }

  static void promise25InItsOwnPart() {
    GateGroup x = of(8, 1, 1);
    x.split(2);
    due("all in its PART", x.slots(0, 0), 8);
    due("all in its PART", x.slots(0, 1), 8);
  }

  static void promise26HostsFrom0On() {
    GateGroup x = of(3, 1, 1);
    for (int h = 0; h < 12; h++) due("HOST " + h, x.host(0, 0, h), h % 3 % 2);
    due("the greatest: 2147483647 mod 3 is 1", x.host(0, 0, MOST), 1);
    for (int h : new int[] {-1, -3, LEAST}) due("HOST " + h, x.host(0, 0, h), -1);
    for (int[] n : NO_PAIRS) due("host(" + n[0] + ", " + n[1] + ")", x.host(n[0], n[1], 0), -1);
    x.down(0, false);
    x.down(1, false);
    due("by none", x.host(0, 0, 0), -1);
    due("without a NET", new GateGroup().host(0, 0, 0), -1);
    due("one SLOT", of(1, 1).host(0, 2, MOST), 0);
  }

  static void promise27From1To9999() {
    GateGroup x = of(8, 1, 1);
    due("all by one SLOT", of(1, 1).load(0, 0, 9999), 9999);
    due("1 by one SLOT", of(1, 1).load(0, 0, 1), 1);
    due("1", x.load(0, 0, 1), 1);
    due("1 of the other", x.load(0, 1, 1), 0);
    due("2", x.load(0, 1, 2), 1);
    due("9999", x.load(0, 0, 9999), 5000);
    due("9999 of the other", x.load(0, 1, 9999), 4999);
    for (int n : new int[] {0, -1, 10000, LEAST, MOST}) due("n " + n, x.load(0, 0, n), -1);
    for (int[] n : NO_PAIRS) due("load(" + n[0] + ", " + n[1] + ")", x.load(n[0], n[1], 1), -1);
    due("no MEMBER", x.load(0, 2, 9999), 0);
    x.down(0, false);
    due("it is down", x.load(0, 0, 9999), 0);
    due("all", x.load(0, 1, 9999), 9999);
    due("without a NET", new GateGroup().load(0, 0, 1), -1);
  }

  static void promise27AsHostsGo() {
    GateGroup x = of(7, 5, 3, 1);
    int[] count = new int[3];
    for (int n = 1; n <= 40; n++) {
      count[x.host(0, 0, n - 1)]++;
      for (int k = 0; k < 3; k++) due("load of " + n, x.load(0, k, n), count[k]);
    }
  }
}
