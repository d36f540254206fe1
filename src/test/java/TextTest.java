/** Promises 1 to 6 and 10 to 12: the tape, NET, PLAN, FAULTS, and what was told. */
public final class TextTest {
  static final String BASE = "gate a;gate b;link l;group g every 4;group h every 3;member a of g word 9;member b of g word 8;";

  public static void main(String[] args) {
    newObject();
    tape();
    netTellsAnew();
    netFaultsStay();
    planTakesPlace();
    faultOfLatest();
    netTexts();
    netFaults();
    netTooMany();
    planTexts();
    planFaults();
    names();
    tracks();
    events();
    Kit.finish("TextTest");
  }

  static void due(String call, long got, long want) { Kit.due(call, got, want); }

  static void newObject() {
    GateGroup x = new GateGroup();
    for (int what = -1; what <= 16; what++) due("1 has(" + what + ")", x.has(what), -1);
    due("1 fault(0)", x.fault(0), 0);
    due("1 fault(1)", x.fault(1), -1);
    due("1 undo", x.undo(), -2);
    due("1 keep", x.keep(0), -2);
    due("1 back", x.back(0), -2);
    due("1 ticks", x.ticks(1), -2);
    due("1 orphans", x.orphans(), -1);
    due("1 doubles", x.doubles(), -1);
    due("1 letters", x.letters(1), -1);
    due("1 settles", x.settles(), -1);
    due("1 split", x.split(0), -2);
    due("1 chance", x.chance(0, 0), -2);
  }

  static void tape() {
    GateGroup x = new GateGroup();
    Kit.due("3 end(1) of none", x.end(1), false);
    Kit.due("3 end(0) of none", x.end(0), true);
    for (int i = 1; i <= 75; i++) due("2 feed", x.feed(0, 0, 0, 0, 0), 20 * i);
    due("2 feed beyond", x.feed(0, 0, 0, 0, 0), -1);
    Kit.due("3 end beyond", x.end(1501), false);
    Kit.due("3 end(-1)", x.end(-1), false);
    Kit.due("3 end(min)", x.end(Integer.MIN_VALUE), false);
    Kit.due("3 end(max)", x.end(Integer.MAX_VALUE), false);
    Kit.due("3 end(1500)", x.end(1500), true);
    Kit.due("3 end(1481)", x.end(1481), true);
    due("2 feed beyond by one", x.feed(0, 0, 0, 0, 0), -1);
    Kit.due("3 end(1480)", x.end(1480), true);
    due("2 feed to the brim", x.feed(0, 0, 0, 0, 0), 1500);
    Kit.due("3 end(0)", x.end(0), true);
    // "gate", " a;g", "roup", " g e", "very"
    due("2 feed", x.feed(0x67617465, 0x20613b67, 0x726f7570, 0x20672065, 0x76657279), 20);
    due("2 feed", x.feed(0x20373b20, 0x20202020, 0x0a0a0a0a, 0x20202020, 0x20202020), 40);
    due("2 bytes, highest first", x.net(), 1);
    due("2 every 7", x.group(0, 0), 7);
    Kit.due("4 the tape is gone", x.end(1), false);
    GateGroup y = Kit.of("gate a;");
    Kit.tape(y, "gate b");
    Kit.tape(y, ";link z;xxx");
    Kit.due("3 the first bytes alone", y.end(14), true);
    due("3 net of what is left", y.net(), 0);
    due("3 link z", y.letter(1, 0, 0), 26);
  }

  static void netTellsAnew() {
    GateGroup x = Kit.of(BASE + "group k every 1;member a of k word 255;", "at 3 down a;");
    x.ticks(30);
    x.cut(0, true);
    x.split(1);
    x.chance(50, 77);
    x.ticks(20);
    x.keep(0);
    x.keep(1);
    due("4 net", Kit.net(x, "gate q;group r every 2;member q of r word 255;"), 1);
    int[] want = {1, 0, 1, 1, 0, 0, 1, 0, 0, 0, 1, 0, 1, 0, 0, 0};
    for (int what = 0; what < 16; what++) due("4 has(" + what + ")", x.has(what), want[what]);
    due("4 undo", x.undo(), -3);
    due("4 back(0)", x.back(0), -3);
    due("4 back(1)", x.back(1), -3);
    due("4 gaps", x.group(0, 5), 0);
    due("4 takes", x.group(0, 7), 1);
    due("4 log", x.log(1, 0), -1);
    due("4 other groups are gone", x.group(1, 0), -1);
    Kit.net(x, "gate q;gate r;group s every 1 delay 9;member q of s word 1;member r of s word 255;");
    x.chance(99, 3);
    x.ticks(300);
    Kit.due("4 some are lost, held twice", x.has(15) > 0 && x.group(0, 6) > 0, true);
    x.chance(0, 0);
    x.word(0, 1, 2);
    x.word(0, 0, 3);
    x.ticks(2);
    Kit.net(x, "gate q;gate r;group s every 1 delay 9;member q of s word 1;member r of s word 2;");
    due("4 lost", x.has(15), 0);
    due("4 held", x.group(0, 8), 0);
    due("4 DOUBLES", x.group(0, 6), 0);
    due("4 WISHES", x.member(0, 0, 7), -1);
    due("4 WISHES", x.member(0, 1, 7), -1);
    String tracked = "gate q;link l;group s every 1;member q of s word 99;";
    Kit.net(x, tracked + "track q of s by l less 9;");
    x.cut(0, true);
    due("4 a TRACK", x.member(0, 0, 1), 90);
    Kit.net(x, tracked);
    due("4 LINKS are whole", x.has(7), 0);
    x.cut(0, true);
    due("4 no TRACK", x.member(0, 0, 1), 99);
    due("4 nothing at all", Kit.net(x, " \n "), 0);
    due("4 no GATE", x.has(0), 0);
    due("4 no GATE up", x.has(6), 0);
  }

  static void netFaultsStay() {
    GateGroup x = Kit.of(BASE, "at 50 down a;");
    x.ticks(13);
    x.keep(1);
    due("4 FAULT", Kit.net(x, "gate a;gate a;"), -1);
    Kit.due("4 the tape goes", x.end(1), false);
    due("4 TICK stays", x.has(5), 13);
    due("4 PLAN stays", x.has(11), 1);
    due("4 GROUPS stay", x.has(2), 2);
    due("4 images stay", x.back(1), 13);
    due("4 FAULT is told", x.fault(0), 2);
  }

  static void planTakesPlace() {
    GateGroup none = new GateGroup();
    due("5 no NET", Kit.plan(none, "at 1 heal;"), -2);
    Kit.due("5 the tape goes", none.end(1), false);
    due("5 FAULT as it was", none.fault(0), 0);
    Kit.net(none, "gate");
    due("5 FAULT of net", none.fault(1), 4);
    Kit.plan(none, "at 1 what;");
    due("5 FAULT as it was", none.fault(1), 4);

    GateGroup x = Kit.of(BASE, "at 5 down a;at 6 cut l;");
    x.ticks(6);
    due("5 a is down", x.has(6), 2);
    due("5 a new PLAN", Kit.plan(x, "at 5 up a;at 6 down b;at 7 heal;"), 3);
    x.ticks(1);
    due("5 EVENTS ahead of now never happen", x.has(6), 0);
    due("5 those of the old PLAN neither", x.has(7), 0);
    x.ticks(20);
    Kit.plan(x, "at 1 cut l;at 2 cut l;at 30 cut l;");
    x.ticks(3);
    due("5 at 30 not yet", x.has(7), 0);
    x.ticks(1);
    due("5 at 30", x.has(7), 1);
    x.undo();
    x.undo();
    x.undo();
    x.undo();
    due("5 FAULT", Kit.plan(x, "at 9 up a;at 8 up b;"), -1);
    due("5 the PLAN stays", x.has(11), 3);
    due("5 an empty one", Kit.plan(x, ""), 0);
    due("5 no EVENTS", x.has(11), 0);
    due("5 it is an ACT, the fifth one", x.undo(), 4);
    due("5 the one ahead of it", x.has(11), 3);
  }

  static void faultOfLatest() {
    GateGroup x = Kit.of(BASE);
    due("6", x.fault(0), 0);
    due("6", x.fault(1), -1);
    Kit.net(x, "gate a;gate a;");
    due("6", x.fault(0), 2);
    due("6", x.fault(1), 12);
    due("6 others", x.fault(2), -1);
    due("6 others", x.fault(-1), -1);
    due("6 others", x.fault(Integer.MAX_VALUE), -1);
    Kit.plan(x, "at 1 heal;");
    due("6 without", x.fault(0), 0);
    due("6 without", x.fault(1), -1);
    Kit.plan(x, "at 1 fly;");
    due("6 of plan", x.fault(0), 1);
    due("6 of plan", x.fault(1), 5);
    x.ticks(1);
    x.undo();
    due("6 stays", x.fault(1), 5);
    Kit.net(x, "");
    due("6 of net", x.fault(0), 0);
  }

  static void netTexts() {
    GateGroup x = Kit.of("\n gate  abcdef ;gate b\n;link l;group g every 0040 delay 99 slots 8;group h every 1 keeps;"
        + "group i every 2 slots 3;group j every 3 delay 0;member abcdef of g word 255 share 99;member b of g word 1 share 0;"
        + "member b of h word 0007;track b of g by l less 254;track b of h by l less 1; \n");
    int[][] groups = {{40, 99, 0, 8, 3}, {1, 0, 1, 1, 2}, {2, 0, 0, 3, 0}, {3, 0, 0, 1, 0}};
    for (int g = 0; g < 4; g++) for (int w = 0; w < 5; w++) due("4 group(" + g + "," + w + ")", x.group(g, w), groups[g][w]);
    due("8 none such", x.group(4, 0), -1);
    due("8 none such", x.group(-1, 0), -1);
    due("8 others", x.group(0, 9), -1);
    due("8 others", x.group(0, -1), -1);
    due("9 word", x.member(0, 0, 0), 255);
    due("9 share", x.member(0, 0, 2), 99);
    due("9 share", x.member(0, 1, 2), 0);
    due("9 share without", x.member(1, 1, 2), 1);
    due("9 no MEMBER", x.member(1, 0, 0), -1);
    due("9 others", x.member(0, 0, 8), -1);
    due("9 others", x.member(0, 0, -1), -1);
    due("9 none such", x.member(0, 2, 0), -1);
    due("9 none such", x.member(5, 0, 0), -1);
    due("7 GATES", x.has(0), 2);
    due("7 LINKS", x.has(1), 1);
    due("7 GROUPS", x.has(2), 4);
    due("7 MEMBERS", x.has(3), 3);
    due("7 TRACKS", x.has(4), 2);
    due("7 others", x.has(16), -1);
    due("7 others", x.has(-1), -1);
  }

  /** The place of the FAULT is where ^ stands. */
  static void netFault(int fault, String text) {
    GateGroup x = new GateGroup();
    due("net " + text, Kit.net(x, text.replace("^", "")), -1);
    due("FAULT of " + text, x.fault(0), fault);
    due("place in " + text, x.fault(1), text.indexOf('^'));
    due("no NET by " + text, x.has(0), -1);
  }

  static void netFaults() {
    String[] first = {"^gat a;", "^gates a;", "gate^;", "gate ^gate;", "gate ^heal;", "gate ^abcdefg;", "gate a^1;", "gate ^1;", "gate a^",
        "gate a ^", "gate^", "gate \n^", "^;", "gate a;^;", "^Gate a;", "gate a^A;", "gate ^A;", "gate a^\t;", "gate a^\r;", "gate a;^at 1 heal;",
        "gate a^,", "gate a ^b;", "^1;", "^abcdefg", "gate a;^ga", "gate a^\u00e9;",
        "group g every^4;", "group g every 4^slots 2;", "group g every ^00004;", "group g every ^x;", "group g every ^;", "group g ^4;",
        "group g ^delay 4;", "group g every 4 ^keep;", "group g every 4 keeps ^delay 3;", "group g every 4 delay 3 ^keeps;",
        "group g every 4 slots 2 ^delay 3;", "group g every 4 slots 2 ^keeps;", "group g every 4 slots 2 ^slots 2;", "group g every 4 delay ^;",
        "group g every 4 delay ^keeps;", "group g every 4 slots^", "group g every 4 ^5;", "group ^every every 4;",
        BASE + "member ^of of g word 1;", BASE + "member a ^by g word 1;", BASE + "member a of ^7 word 1;", BASE + "member a of h ^share 1;",
        BASE + "member a of h word ^share 1;", BASE + "member a of h word 1 ^1;", BASE + "member a of h word 1 share ^;", BASE + "member a of h word 1 share 2 ^share 2;",
        BASE + "member a of h word^1;", BASE + "member a of h word 1^share 2;", BASE + "member ^;",
        BASE + "track a of g ^of l less 1;", BASE + "track a of g by ^less less 1;", BASE + "track a of g by l ^1;", BASE + "track a of g by l less ^;",
        BASE + "track a of g by l less 1 ^2;", BASE + "track ^5 of g by l less 1;", BASE + "track a^"};
    for (String t : first) netFault(1, t);
    String[] second = {"gate a;link ^a;", "gate a;group ^a every 1;", "link a;gate ^a;", "group g every 1;gate ^g;", "link a;link ^a", "gate abcdef;gate ^abcdef 7;"};
    for (String t : second) netFault(2, t);
    String[] third = {"gate a;member ^b of g word 1;", "group g every 1;member ^a of g word 1;gate a;", BASE + "member ^l of g word 1;", BASE + "member ^g of g word 1;",
        BASE + "member a of ^a word 1;", BASE + "member a of ^l word 1;", BASE + "member a of ^x", BASE + "track ^l of g by l less 1;", BASE + "track a of ^b by l less 1;",
        BASE + "track a of g by ^a less 1;", BASE + "track a of g by ^g less 1;", BASE + "track a of g by ^k less 1;link k;"};
    for (String t : third) netFault(3, t);
    String[] fourth = {"group g every ^0;", "group g every ^41;", "group g every ^9999;", "group g every 1 delay ^100;", "group g every 1 slots ^0;",
        "group g every 1 slots ^9;", "group g every ^0 x", BASE + "member a of h word ^0;", BASE + "member a of h word ^256;", BASE + "member a of h word 1 share ^100;",
        BASE + "track a of g by l less ^0;", BASE + "track a of g by l less ^255;", "group g every ^99delay 1;"};
    for (String t : fourth) netFault(4, t);
    String[] fifth = {BASE + "member ^a of g word 1;", BASE + "member ^a of g word 0;", BASE + "member ^b of g", BASE + "member ^b of g 7;",
        BASE + "track a of ^h by l less 1;", BASE + "track b of ^h by k less 1;", BASE + "track a of g by l less 1;track a of g by ^l less 2;",
        BASE + "track a of g by l less 1;track b of g by l less 1;track a of g by ^l less 0;"};
    for (String t : fifth) netFault(5, t);
    // of several the one whose place is least; of one place the one that stands first
    netFault(2, "gate a;gate ^a;group g every 0;");
    netFault(1, "group g every^99;");
    netFault(3, BASE + "member ^x of y word 0;");
  }

  static void netTooMany() {
    String gates = "gate a;gate b;gate c;gate d;gate e;gate f;";
    String links = "link m;link n;link o;link p;link q;link r;link s;link t;";
    String groups = "group g every 1;group h every 1;group i every 1;group j every 1;group k every 1;";
    netFault(6, gates + "^gate z;");
    netFault(6, gates + "^gate a;");
    netFault(6, gates + "^gate");
    netFault(1, gates + "^gates x;");
    netFault(6, links + "^link z;");
    netFault(6, groups + "^group z every 0;");
    StringBuilder all = new StringBuilder(gates + links + groups);
    StringBuilder members = new StringBuilder();
    for (char g = 'g'; g <= 'k'; g++) for (char k = 'a'; k <= 'f'; k++) members.append("member " + k + " of " + g + " word 1;");
    StringBuilder tracks = new StringBuilder();
    for (char k = 'a'; k <= 'c'; k++) for (char l = 'm'; l <= 't'; l++) tracks.append("track " + k + " of g by " + l + " less 1;");
    GateGroup x = new GateGroup();
    due("all MEMBERS", Kit.net(x, all.toString() + members), 5);
    due("30 MEMBERS", x.has(3), 30);
    due("24 TRACKS", Kit.net(x, gates + links + "group g every 1;" + members.substring(0, 6 * 21) + tracks), 1);
    due("24 TRACKS", x.has(4), 24);
    netFault(6, gates + links + "group g every 1;" + members.substring(0, 6 * 21) + tracks + "^track d of g by m less 1;");
    String sixty = all.toString() + members + tracks.substring(0, 11 * 25);
    due("60 STATEMENTS", Kit.net(x, sixty), 5);
    due("11 TRACKS", x.has(4), 11);
    netFault(6, sixty + "^track b of g by p less 1;");
    netFault(6, sixty + "^track");
    netFault(6, sixty + "^member a of g word 1;");
    netFault(1, sixty + "^tracks");
    netFault(1, sixty + "^;");
    due("and blanks behind", Kit.net(x, sixty + " \n"), 5);
  }

  static void planTexts() {
    GateGroup x = Kit.of(BASE);
    due("5", Kit.plan(x, "at 0 up a;at 0 down b;at 7 cut l;at 0007 mend l;at 8 split b a;at 9 heal;at 9999 word b of g 255;"), 7);
    due("5 blanks", Kit.plan(x, "\nat 1 split\na;at 2 heal;at 2\n heal ;"), 3);
    StringBuilder twenty = new StringBuilder();
    for (int i = 0; i < 20; i++) twenty.append("at 5 heal;");
    due("5 20 EVENTS", Kit.plan(x, twenty.toString()), 20);
    planFault(6, twenty + "^at 5 heal;");
    planFault(6, twenty + "^at");
    planFault(1, twenty + "^up");
  }

  static void planFault(int fault, String text) {
    GateGroup x = Kit.of(BASE);
    due("plan " + text, Kit.plan(x, text.replace("^", "")), -1);
    due("FAULT of " + text, x.fault(0), fault);
    due("place in " + text, x.fault(1), text.indexOf('^'));
    due("no EVENTS by " + text, x.has(11), 0);
    due("no ACT by " + text, x.undo(), -3);
  }

  static void planFaults() {
    String[] first = {"^heal;", "^up a;", "at ^heal;", "at^5 heal;", "at 5^heal;", "at ^12345 heal;", "at 5 ^gate a;", "at 5 ^fall a;", "at 5 heal ^a;", "at 5 heal^",
        "at 5 up ^;", "at 5 up ^up;", "at 5 up a ^b;", "at 5 down^", "at 5 cut ^1;", "at 5 split ^;", "at 5 split ^heal;", "at 5 split a ^5;", "at 5 split a^1;",
        "at 5 split a^", "at 5 split a ^of;", "at 5 word ^7 of g 1;", "at 5 word a ^g 1;", "at 5 word a of g ^word 1;", "at 5 word a of g ^;", "at 5 word a of g^1;",
        "at 5 word a of g 1 ^1;", "^;", "at 5 heal;^;", "at 5 heal;^a", "at ^", "at 5^", "^gate a;"};
    for (String t : first) planFault(1, t);
    String[] third = {"at 5 up ^z;", "at 5 up ^g;", "at 5 down ^l;", "at 5 cut ^a;", "at 5 mend ^g;", "at 5 split ^l;", "at 5 split a ^h;", "at 5 word ^l of g 1;", "at 5 word a of ^b 1;"};
    for (String t : third) planFault(3, t);
    String[] fourth = {"at 5 heal;at ^4 heal;", "at 5 heal;at 5 heal;at ^0 heal;", "at 5 word a of g ^0;", "at 5 word a of g ^256;", "at 5 heal;at ^4 x"};
    for (String t : fourth) planFault(4, t);
    String[] fifth = {"at 5 split a ^a;", "at 5 split a b ^a;", "at 5 word a of ^h 1;", "at 5 word b of ^h 0;", "at 5 split a ^a b"};
    for (String t : fifth) planFault(5, t);
  }

  static void names() {
    GateGroup x = Kit.of("gate abcdef;gate z;link yz;group gg every 1;");
    int[] want = {1, 2, 3, 4, 5, 6};
    for (int i = 0; i < 6; i++) due("10 letter " + i, x.letter(0, 0, i), want[i]);
    due("10", x.letter(0, 1, 0), 26);
    due("10 behind it", x.letter(0, 1, 1), 0);
    due("10 behind it", x.letter(0, 1, 5), 0);
    due("10 LINK", x.letter(1, 0, 0), 25);
    due("10 LINK", x.letter(1, 0, 1), 26);
    due("10 GROUP", x.letter(2, 0, 1), 7);
    int[][] none = {{0, 0, 6}, {0, 0, -1}, {0, 2, 0}, {0, -1, 0}, {1, 1, 0}, {2, 1, 0}, {3, 0, 0}, {-1, 0, 0}, {Integer.MAX_VALUE, 0, 0}, {0, Integer.MIN_VALUE, 0}};
    for (int[] n : none) due("10 none such", x.letter(n[0], n[1], n[2]), -1);
  }

  static void tracks() {
    GateGroup x = Kit.of("link k;" + BASE + "track b of g by l less 254;track b of g by k less 1;member b of h word 3;track b of h by k less 77;");
    int[][] want = {{0, 1, 1, 254}, {0, 1, 0, 1}, {1, 1, 0, 77}};
    for (int k = 0; k < 3; k++) for (int w = 0; w < 4; w++) due("11 track", x.track(k, w), want[k][w]);
    int[][] none = {{3, 0}, {-1, 0}, {0, 4}, {0, -1}, {Integer.MIN_VALUE, 0}};
    for (int[] n : none) due("11 none such", x.track(n[0], n[1]), -1);
  }

  static void events() {
    GateGroup x = Kit.of(BASE, "at 0 up b;at 1 down b;at 2 cut l;at 3 mend l;at 4 split b;at 5 split b a;at 6 heal;at 9999 word b of g 200;");
    int[][] want = {{0, 0, 1, -1, -1}, {1, 1, 1, -1, -1}, {2, 2, 0, -1, -1}, {3, 3, 0, -1, -1}, {4, 4, 2, -1, -1}, {5, 4, 3, -1, -1}, {6, 5, -1, -1, -1}, {9999, 6, 1, 0, 200}};
    for (int k = 0; k < want.length; k++) for (int w = 0; w < 5; w++) due("12 event(" + k + "," + w + ")", x.event(k, w), want[k][w]);
    int[][] none = {{8, 0}, {-1, 0}, {0, 5}, {0, -1}, {Integer.MAX_VALUE, 0}};
    for (int[] n : none) due("12 none such", x.event(n[0], n[1]), -1);
    due("12 no PLAN", Kit.of(BASE).event(0, 0), -1);
  }
}
