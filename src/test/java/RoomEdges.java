/** What is, and what would be: term 3, and promises 17 to 24. */
final class RoomEdges {
  private RoomEdges() {
  }

  private static BoardKeep wide(int... kmAbs) {
    BoardKeep keep = new BoardKeep();
    for (int i = 0; i + 1 < kmAbs.length; i += 2) {
      keep.write(kmAbs[i], kmAbs[i + 1], 0, i % 5);
    }
    return keep;
  }

  /** A board on its last DAY, with a LINE of this KIND and m on all COLUMNS that came so many DAYS ahead. */
  private static BoardKeep late(int km, int age) {
    BoardKeep keep = new BoardKeep();
    Edge.toDay(keep, Edge.LAST_DAY - age);
    keep.pen(0, 99);
    keep.write(km, 12, 0, 0);
    Edge.toDay(keep, Edge.LAST_DAY);
    return keep;
  }

  // ---- term 3

  @Says(at = "T3", text = "DAY beyond 9999, too.)")
  static void beyondTheLastDay() {
    BoardKeep keep = late(19, 3);
    Edge.is("WHEN", 60, keep.when(12, 0));
    Edge.is("WHERE", 0, keep.when(12, 1));
    Edge.is("CLEARS up to then", 4095, keep.clears(60));
    Edge.is("CLEARS behind it", 0, keep.clears(61));
    keep.sheet(0, 8, 12);
    Edge.is("FITS", 61, keep.fits(0));
    Edge.is("DAY", 9999, keep.count(1));
  }

  @Says(at = "T3", text = "RUN: the most FREE COLUMNS beside one another; the first of them.")
  static void run() {
    BoardKeep keep = wide(0, 401, 0, 901);
    Edge.is("of 4, 4, 2", 4, keep.free(2));
    Edge.is("the first of the two", 0, keep.free(3));
    keep.write(0, 1, 0, 0);
    Edge.is("of 3, 4, 2", 4, keep.free(2));
    Edge.is("the one that is longer", 5, keep.free(3));
    BoardKeep last = wide(0, 11);
    Edge.is("the last COLUMN alone", 1, last.free(2));
    Edge.is("where", 11, last.free(3));
    Edge.is("all", 12, new BoardKeep().free(2));
    Edge.is("all, where", 0, new BoardKeep().free(3));
    Edge.is("behind the first", 11, wide(0, 1).free(2));
    Edge.is("up to the last", 11, wide(0, 1101).free(2));
  }

  @Says(at = "T3", text = "ROOM of n COLUMNS: of all n beside one another on which each LINE that isn't GONE MAY GO those of least LOSS "
      + "(of all these LINES together); of several the first.")
  static void room() {
    BoardKeep keep = wide(25, 4, 21, 404, 23, 804);
    keep.days(1);
    // LOSS 25, 23 and 24
    Edge.is("least LOSS", 23, keep.room(4, 0));
    Edge.is("where", 4, keep.room(4, 1));
    Edge.is("the first place on it", 4, keep.room(1, 1));
    Edge.is("of all these LINES together", 23 + 24, keep.room(8, 0));
    Edge.is("where both are", 4, keep.room(8, 1));
    Edge.is("each of them once", 72, keep.room(12, 0));
    keep.become(0, 21);
    keep.become(2, 21);
    Edge.is("of several the first", 0, keep.room(4, 1));
    Edge.is("of several pairs the first", 0, keep.room(5, 1));
    keep.wipe(0);
    Edge.is("what is GONE is no LOSS", 0, keep.room(4, 0));
    keep.become(1, 41);
    Edge.is("one that MAY not GO", Due.NONE, keep.room(5, 0));
    Edge.is("beside that one", 0, keep.room(4, 1));
  }

  @Says(at = "T3", text = "WHEN: behind how many DAYS (0 .. 90; nothing being WIPED) there is first any ROOM of n; its first COLUMN.")
  static void when() {
    Edge.is("now", 0, new BoardKeep().when(12, 0));
    Edge.is("the DAY ahead", 1, aged(0, 6).when(12, 0));
    Edge.is("the DAY", 0, aged(0, 7).when(12, 0));
    Edge.is("SUM of 9", 63, aged(19, 0).when(12, 0));
    Edge.is("never by SPIRIT", Due.NONE, aged(69, 90).when(12, 0));
    // On DAY 1 LOSS is 22 and 26.
    BoardKeep keep = wide(50, 6, 27, 606);
    Edge.is("first any", 1, keep.when(6, 0));
    Edge.is("the one of less LOSS", 0, keep.when(6, 1));
    keep.become(0, 0);
    Edge.is("the other one", 1, keep.when(6, 0));
    Edge.is("where it is", 6, keep.when(6, 1));
    Edge.is("both", 7, keep.when(12, 0));
    BoardKeep left = wide(20, 6, 0, 606);
    Edge.is("6 by the ARROW", 1, left.when(6, 0));
    Edge.is("one more", 7, left.when(7, 0));
    BoardKeep right = wide(0, 6, 20, 606);
    Edge.is("6 by the ARROW, from 6 on", 6, right.when(6, 1));
    Edge.is("one more", 7, right.when(7, 0));
    BoardKeep apart = wide(41, 101);
    Edge.is("of 5, not of 1", 2, apart.when(5, 1));
    Edge.is("of 1", 0, apart.when(1, 1));
    // LOSS now is 14; the other one MAY GO on the next DAY, with a LOSS of 7.
    BoardKeep early = wide(29, 6, 0, 606);
    early.photo(1, 1);
    early.days(6);
    Edge.is("on that DAY", 0, early.when(6, 0));
    Edge.is("and not on the next one", 0, early.when(6, 1));
    // LOSS now is 35 and 50, on DAY 7 it is 17 and 15.
    BoardKeep then = wide(30, 6, 0, 606);
    then.photo(0, 1);
    Edge.is("both at once", 7, then.when(6, 0));
    Edge.is("of less LOSS on that DAY", 6, then.when(6, 1));
  }

  private static BoardKeep aged(int km, int age) {
    BoardKeep keep = wide(km, 12);
    Edge.toDay(keep, age);
    return keep;
  }

  /** DATES can be no later than DAY, so the most that any LINE lacks is 63 DAYS. */
  @Says(at = "T3", text = "(0 .. 90; nothing being WIPED)")
  static void whenAtMost() {
    BoardKeep keep = aged(19, 50);
    Edge.is("by its own DATE", 13, keep.when(12, 0));
    Edge.setSheet(keep, 0, 8, 50);
    keep.dates(0);
    Edge.is("by a later DATE", 63, keep.when(12, 0));
    keep.become(0, 41);
    Edge.is("not by 90", Due.NONE, keep.when(12, 0));
    keep.become(0, 60);
    Edge.is("not by 90 without SPIRIT", Due.NONE, keep.when(12, 0));
    keep.spirit(1);
    Edge.is("with SPIRIT", 7, keep.when(12, 0));
  }

  @Says(at = "T3", text = "CLEARS: if at the begin of each DAY all that MAY GO were GONE: COLUMNS TAKEN, n DAYS on.")
  static void clearsTerm() {
    BoardKeep keep = wide(20, 1, 0, 101, 19, 201, 41, 301);
    int[][] rows = {{0, 15}, {1, 15}, {2, 14}, {7, 14}, {8, 12}, {63, 12}, {64, 8}, {90, 8}};
    for (int[] row : rows) {
      Edge.is("behind " + row[0], row[1], keep.clears(row[0]));
    }
    keep.days(1);
    Edge.is("what MAY GO is there now", 15, keep.clears(0));
    Edge.is("GONE at the begin of this DAY", 14, keep.clears(1));
    keep.wipe(0);
    Edge.is("GONE", 14, keep.clears(0));
    BoardKeep stain = wide(60, 2);
    Edge.is("without SPIRIT", 3, stain.clears(90));
    stain.spirit(1);
    Edge.is("with SPIRIT, too early", 3, stain.clears(7));
    Edge.is("with SPIRIT", 0, stain.clears(8));
  }

  private static int parts(BoardKeep keep, int... wants) {
    Edge.setSheet(keep, 0, 8, wants);
    return keep.parts(0);
  }

  @Says(at = "T3", text = "PARTS: a SHEET tells how many COLUMNS are wanted by some (1 .. 12 each)")
  static void partsWants() {
    Edge.within("a want", 1, 12, want -> stateAsBeyond(parts32(want)));
    Edge.within("a want behind others", 1, 12, want -> stateAsBeyond(parts32(1, 2, want)));
    Edge.is("1", 1, parts(new BoardKeep(), 1));
    Edge.is("12", 1, parts(new BoardKeep(), 12));
    Edge.is("of nobody", 0, parts(new BoardKeep()));
  }

  private static int parts32(int... wants) {
    BoardKeep keep = new BoardKeep();
    Edge.setSheet(keep, 0, 32, wants);
    return keep.parts(0);
  }

  private static int stateAsBeyond(int answer) {
    return answer == Due.STATE ? Due.BEYOND : answer;
  }

  @Says(at = "T3", text = "for how many of them at most there are FREE ones, each one's beside one another, none for two.")
  static void partsMost() {
    Edge.is("all of six", 6, parts(new BoardKeep(), 2, 2, 2, 2, 2, 2));
    Edge.is("one COLUMN too many", 5, parts(new BoardKeep(), 2, 2, 2, 2, 2, 3));
    Edge.is("none for two", 1, parts(new BoardKeep(), 7, 6));
    Edge.is("both just so", 2, parts(new BoardKeep(), 7, 5));
    Edge.is("rather the small ones", 3, parts(new BoardKeep(), 12, 4, 4, 4));
    BoardKeep keep = wide(0, 401, 0, 901);
    // RUNS of 4, 4 and 2
    Edge.is("beside one another", 0, parts(keep, 5));
    Edge.is("three runs", 3, parts(keep, 2, 4, 4));
    Edge.is("four and two, twice one of them", 4, parts(keep, 3, 1, 4, 2));
    Edge.is("not the first that comes", 5, parts(keep, 1, 3, 2, 2, 2));
    Edge.is("three of 3", 2, parts(keep, 3, 3, 3));
    BoardKeep full = wide(0, 12);
    Edge.is("no FREE one", 0, parts(full, 1, 1, 1));
    BoardKeep may = aged(0, 7);
    Edge.is("what MAY GO isn't FREE", 0, parts(may, 1));
    may.wipe(0);
    Edge.is("what is GONE is", 1, parts(may, 12));
  }

  @Says(at = "T3", text = "ODDS of a set of LINES (4 at most): that nobody comes back for any of them (BACK of a hundred each, each by itself)")
  static void oddsOfFour() {
    BoardKeep keep = Edge.lines(0, 10, 49, 29, 5);
    // BACK 50, 70, 99, 29, 55
    Edge.is("four, above", 213, keep.odds(15, 0));
    Edge.is("four, below", 200000, keep.odds(15, 1));
    Edge.is("five", Due.BEYOND, keep.odds(31, 0));
    Edge.is("none, above", 1, keep.odds(0, 0));
    Edge.is("none, below", 1, keep.odds(0, 1));
    BoardKeep ten = Edge.lines(49, 0, 0, 0, 0, 0, 0, 49, 49, 49);
    // 1 by 100, four times
    Edge.is("the least, above", 1, ten.odds(0x381, 0));
    Edge.is("the least, below", 100000000, ten.odds(0x381, 1));
  }

  /** 0 can't be had: nobody's BACK is 100. The greatest is 1 by 1. */
  @Says(at = "T3", text = "a fraction in lowest terms (0 is 0 by 1)")
  static void oddsLowest() {
    BoardKeep keep = Edge.lines(0, 0, 10, 41);
    Edge.is("50 by 100, above", 1, keep.odds(1, 0));
    Edge.is("50 by 100, below", 2, keep.odds(1, 1));
    Edge.is("2500 by 10000, above", 1, keep.odds(3, 0));
    Edge.is("2500 by 10000, below", 4, keep.odds(3, 1));
    Edge.is("1500 by 10000, above", 3, keep.odds(5, 0));
    Edge.is("1500 by 10000, below", 20, keep.odds(5, 1));
    Edge.is("9 by 100, above", 9, keep.odds(8, 0));
    Edge.is("9 by 100, below", 100, keep.odds(8, 1));
    keep.days(10);
    Edge.is("100 by 100, above", 1, keep.odds(3, 0));
    Edge.is("100 by 100, below", 1, keep.odds(3, 1));
  }

  @Says(at = "T3", text = "FITS: a SHEET tells which of COLUMNS 0, 1, .. are TAKEN (1; 0 FREE): behind how many DAYS (0 .. 90) first that is so, "
      + "if at the begin of each DAY all that MAY GO were GONE.")
  static void fitsTerm() {
    BoardKeep keep = wide(20, 1, 0, 101, 19, 201, 41, 301);
    Edge.is("now", 0, fits(keep, 1, 1, 1, 1, 0));
    Edge.is("first", 2, fits(keep, 0, 1));
    Edge.is("then", 8, fits(keep, 0, 0, 1));
    Edge.is("at last", 64, fits(keep, 0, 0, 0, 1));
    Edge.is("never", Due.NONE, fits(keep, 0, 0, 0, 0));
    Edge.is("not this way", Due.NONE, fits(keep, 1, 0));
    Edge.is("nobody comes", Due.NONE, fits(keep, 1, 1, 1, 1, 1));
    Edge.is("those that aren't told don't matter", 0, fits(wide(20, 1, 0, 101), 1));
    Edge.is("be they TAKEN or not", 0, fits(wide(20, 1, 0, 1101), 1, 0, 0, 0, 0, 0, 0, 0, 0, 0, 0));
    Edge.is("none told", 0, fits(wide(20, 12)));
    Edge.is("2 is neither", Due.NONE, fits(keep, 2));
    Edge.is("-1 is neither", Due.NONE, fits(keep, -1));
  }

  private static int fits(BoardKeep keep, int... taken) {
    Edge.setSheet(keep, 3, 32, taken);
    return keep.fits(3);
  }

  // ---- promise 17

  @Says(at = "P17", text = "Now: 0 COLUMNS TAKEN, as a set, 1 how many are FREE, of the RUN 2 how many, 3 the first.")
  static void free() {
    BoardKeep none = new BoardKeep();
    Edge.is("none TAKEN", 0, none.free(0));
    Edge.is("all FREE", 12, none.free(1));
    BoardKeep ends = wide(0, 1, 0, 1101);
    Edge.is("both ends", 1 + 2048, ends.free(0));
    Edge.is("ten FREE", 10, ends.free(1));
    BoardKeep all = wide(0, 12);
    Edge.is("all TAKEN", 4095, all.free(0));
    Edge.is("none FREE", 0, all.free(1));
    Edge.is("a RUN of none", 0, all.free(2));
    Edge.is("one by one, none FREE", 0, wide(0, 11, 0, 1101).free(1));
  }

  @Says(at = "P17", text = "BEYOND.")
  static void freeBeyond() {
    Edge.within("what", 0, 3, what -> new BoardKeep().free(what));
    Edge.beyond("what, if none is FREE", what -> wide(0, 12).free(what), 4, -1);
  }

  @Says(at = "P17", text = "NONE: (what 3) none is FREE.")
  static void freeNone() {
    BoardKeep all = wide(0, 12);
    Edge.is("none", Due.NONE, all.free(3));
    Edge.is("told", 1, all.told(2));
    all.free(0);
    all.free(1);
    all.free(2);
    Edge.is("but what 3 no ERROR", 1, all.told(2));
    Edge.is("what 4", Due.BEYOND, all.free(4));
    all.days(7);
    Edge.is("what MAY GO isn't FREE", Due.NONE, all.free(3));
    all.wipe(0);
    Edge.is("what is GONE is", 0, all.free(3));
  }

  // ---- promise 18

  @Says(at = "P18", text = "On how many COLUMNS are LINES (not GONE) of one of the PEOPLE.")
  static void of() {
    BoardKeep keep = new BoardKeep();
    keep.write(20, 3, 0, 0);
    keep.write(20, 302, 5, 0);
    keep.write(20, 501, 5, 0);
    keep.days(1);
    Edge.is("the first", 3, keep.of(0));
    Edge.is("the last", 3, keep.of(5));
    Edge.is("another", 0, keep.of(4));
    keep.wipe(1);
    Edge.is("not GONE", 1, keep.of(5));
    keep.write(20, 302, 0, 1);
    Edge.is("two of one", 5, keep.of(0));
    BoardKeep all = wide(0, 12);
    Edge.is("all", 12, all.of(0));
  }

  @Says(at = "P18", text = "BEYOND.")
  static void ofBeyond() {
    Edge.within("who", 0, 5, who -> new BoardKeep().of(who));
    Edge.within("who, with LINES", 0, 5, who -> Edge.full().of(who));
  }

  // ---- promise 19

  @Says(at = "P19", text = "ROOM of n (1 .. 12): what 0 LOSS, 1 the first COLUMN, 2 LINES on them, as a set, 3 GAIN.")
  static void roomOf() {
    BoardKeep keep = wide(41, 1, 20, 110, 20, 1101);
    keep.days(1);
    Edge.is("n 11, LOSS", 44, keep.room(11, 0));
    Edge.is("n 11, first", 1, keep.room(11, 1));
    Edge.is("n 11, LINES", 6, keep.room(11, 2));
    Edge.is("n 11, GAIN", 110, keep.room(11, 3));
    keep.wipe(1);
    Edge.is("LINES that are GONE", 4, keep.room(11, 2));
    BoardKeep empty = new BoardKeep();
    Edge.is("n 12, LOSS", 0, empty.room(12, 0));
    Edge.is("n 12, first", 0, empty.room(12, 1));
    Edge.is("n 12, LINES", 0, empty.room(12, 2));
    BoardKeep last = wide(41, 11);
    Edge.is("n 1, first", 11, last.room(1, 1));
    BoardKeep ten = Edge.full();
    ten.days(7);
    Edge.is("ten LINES", 1023, ten.room(12, 2));
    Edge.is("their LOSS", 150, ten.room(12, 0));
  }

  @Says(at = "P19", text = "BEYOND.")
  static void roomBeyond() {
    for (int any = 0; any <= 3; any++) {
      int what = any;
      Edge.within("n, what " + what, 1, 12, n -> new BoardKeep().room(n, what));
    }
    Edge.within("what", 0, 3, what -> new BoardKeep().room(1, what));
    Edge.within("what of 12", 0, 3, what -> new BoardKeep().room(12, what));
  }

  @Says(at = "P19", text = "NONE: there is none.")
  static void roomNone() {
    BoardKeep keep = wide(0, 601);
    for (int what = 0; what < 4; what++) {
      Edge.is("n 7, what " + what, Due.NONE, keep.room(7, what));
      Edge.isNot("n 6, what " + what, Due.NONE, keep.room(6, what));
    }
    Edge.is("n 12", Due.NONE, keep.room(12, 0));
    keep.days(6);
    Edge.is("too early", Due.NONE, keep.room(7, 0));
    keep.days(1);
    Edge.is("LOSS when it MAY GO", 15, keep.room(7, 0));
    Edge.is("of all", 15, keep.room(12, 0));
  }

  // ---- promise 20

  @Says(at = "P20", text = "WHEN, for n (1 .. 12): what 0 behind how many DAYS, 1 the first COLUMN.")
  static void whenOf() {
    BoardKeep keep = wide(0, 1, 41, 101);
    Edge.is("n 10", 0, keep.when(10, 0));
    Edge.is("n 10, where", 2, keep.when(10, 1));
    Edge.is("n 1, where", 2, keep.when(1, 1));
  }

  @Says(at = "P20", text = "BEYOND.")
  static void whenBeyond() {
    Edge.within("n", 1, 12, n -> new BoardKeep().when(n, 0));
    Edge.within("n, where", 1, 12, n -> new BoardKeep().when(n, 1));
    Edge.within("what", 0, 1, what -> new BoardKeep().when(1, what));
  }

  @Says(at = "P20", text = "NONE: not by 90.")
  static void whenNone() {
    BoardKeep keep = wide(0, 1, 41, 101);
    Edge.is("n 11", Due.NONE, keep.when(11, 0));
    Edge.is("n 11, where", Due.NONE, keep.when(11, 1));
    Edge.is("told", 2, keep.told(2));
    keep.become(1, 19);
    Edge.is("by 63", 63, keep.when(12, 0));
    Edge.is("by 63, where", 0, keep.when(12, 1));
  }

  // ---- promise 21

  @Says(at = "P21", text = "BEYOND.")
  static void clearsBeyond() {
    Edge.within("n", 0, 90, n -> new BoardKeep().clears(n));
    Edge.within("n, with LINES", 0, 90, n -> Edge.full().clears(n));
  }

  @Says(at = "P21", text = "CLEARS, for n (0 .. 90), as a set.")
  static void clears() {
    BoardKeep keep = wide(20, 1, 41, 102, 20, 1101);
    Edge.is("n 0", 1 + 6 + 2048, keep.clears(0));
    Edge.is("n 90", 6, keep.clears(90));
    Edge.is("of none", 0, new BoardKeep().clears(90));
  }

  // ---- promise 22

  @Says(at = "P22", text = "BEYOND.")
  static void partsBeyond() {
    Edge.within("sheet", 0, 3, sheet -> new BoardKeep().parts(sheet));
  }

  @Says(at = "P22", text = "PARTS, by a SHEET.")
  static void partsOf() {
    BoardKeep keep = new BoardKeep();
    Edge.setSheet(keep, 0, 8, 12);
    Edge.setSheet(keep, 3, 16, 1, 1);
    Edge.is("the first", 1, keep.parts(0));
    Edge.is("the last", 2, keep.parts(3));
  }

  @Says(at = "P22", text = "NONE: the SHEET is missing, has more than 6 numbers.")
  static void partsNone() {
    BoardKeep keep = new BoardKeep();
    Edge.is("missing at first", Due.NONE, keep.parts(2));
    Edge.is("six", 6, parts(keep, 1, 1, 1, 1, 1, 1));
    Edge.is("seven", Due.NONE, parts(keep, 1, 1, 1, 1, 1, 1, 1));
    keep.sheet(0, 8, 24);
    Edge.is("twenty-four", Due.NONE, keep.parts(0));
    keep.sheet(0, 0, 0);
    Edge.is("missing again", Due.NONE, keep.parts(0));
  }

  @Says(at = "P22", text = "STATE: a number is not 1 to 12.")
  static void partsState() {
    BoardKeep keep = new BoardKeep();
    Edge.is("0", Due.STATE, parts(keep, 0));
    Edge.is("13", Due.STATE, parts(keep, 13));
    Edge.is("-1", Due.STATE, parts(keep, -1));
    Edge.is("the last of six", Due.STATE, parts(keep, 1, 1, 1, 1, 1, 0));
    Edge.is("the first of six", Due.STATE, parts(keep, 13, 1, 1, 1, 1, 1));
    Edge.is("12 and 1", 1, parts(keep, 12, 1));
    Edge.is("257 in 8 bits is 1", 1, parts(keep, 257));
    Edge.is("of seven it isn't asked", Due.NONE, parts(keep, 0, 0, 0, 0, 0, 0, 0));
  }

  // ---- promise 23

  @Says(at = "P23", text = "ODDS: part 0 above, 1 below the line.")
  static void oddsPart() {
    BoardKeep keep = Edge.lines(0, 25);
    // BACK 50 and 27
    Edge.is("above", 73, keep.odds(3, 0));
    Edge.is("below", 200, keep.odds(3, 1));
    Edge.is("of none, above", 1, new BoardKeep().odds(0, 0));
    Edge.is("of none, below", 1, new BoardKeep().odds(0, 1));
  }

  @Says(at = "P23", text = "BEYOND: also a set of more than 4, of LINES that aren't there.")
  static void oddsBeyond() {
    Edge.within("part", 0, 1, part -> Edge.full().odds(1, part));
    BoardKeep ten = Edge.full();
    Edge.is("four", 16, ten.odds(0x3C0, 1));
    Edge.is("five", Due.BEYOND, ten.odds(0x3E0, 1));
    Edge.is("five with a gap", Due.BEYOND, ten.odds(0x20F, 1));
    Edge.is("ten", Due.BEYOND, ten.odds(0x3FF, 1));
    Edge.is("the last", 2, ten.odds(1 << 9, 1));
    Edge.beyond("not there", set -> Edge.full().odds(set, 0), 1 << 10, 1 << 11, 1025, 1 << 30, Edge.MAX, Edge.MIN, -1, Edge.MIN + 1);
    Edge.beyond("of one", set -> Edge.lines(0).odds(set, 0), 2, 3, 4, -1, -2, Edge.MIN);
    Edge.beyond("of none", set -> new BoardKeep().odds(set, 0), 1, 2, -1, Edge.MIN);
    BoardKeep gone = Edge.aged(20, 1);
    gone.wipe(0);
    Edge.is("what is GONE is there", 50, gone.odds(1, 1));
    Edge.is("by its BACK of 22", 39, gone.odds(1, 0));
  }

  // ---- promise 24

  @Says(at = "P24", text = "BEYOND.")
  static void fitsBeyond() {
    Edge.within("sheet", 0, 3, sheet -> new BoardKeep().fits(sheet));
  }

  @Says(at = "P24", text = "FITS, by a SHEET.")
  static void fitsOf() {
    BoardKeep keep = new BoardKeep();
    Edge.setSheet(keep, 0, 8, 0, 0);
    Edge.setSheet(keep, 3, 16, 1);
    Edge.is("the first", 0, keep.fits(0));
    Edge.is("the last", Due.NONE, keep.fits(3));
  }

  @Says(at = "P24", text = "NONE: the SHEET is missing; not by 90 (a SHEET of more than 12 numbers, too).")
  static void fitsNone() {
    BoardKeep keep = new BoardKeep();
    Edge.is("missing at first", Due.NONE, keep.fits(1));
    keep.sheet(1, 8, 12);
    Edge.is("twelve", 0, keep.fits(1));
    keep.sheet(1, 8, 13);
    Edge.is("thirteen", Due.NONE, keep.fits(1));
    keep.sheet(1, 8, 24);
    Edge.is("twenty-four", Due.NONE, keep.fits(1));
    keep.sheet(2, 8, 13);
    Edge.is("thirteen of another", Due.NONE, keep.fits(2));
    keep.sheet(1, 0, 12);
    Edge.is("missing again", Due.NONE, keep.fits(1));
    keep.write(41, 1101, 0, 0);
    keep.sheet(1, 8, 12);
    Edge.is("not by 90", Due.NONE, keep.fits(1));
    keep.become(0, 19);
    Edge.is("by 64", 64, keep.fits(1));
    Edge.is("told", 6, keep.told(2));
  }
}
