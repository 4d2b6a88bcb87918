/** SHEETS: the end of term 4, and promises 27 to 31. */
final class SheetEdges {
  private SheetEdges() {
  }

  /** A board on DAY 1000 with ten LINES of that DAY. */
  private static BoardKeep tenLate() {
    BoardKeep keep = new BoardKeep();
    Edge.toDay(keep, 1000);
    keep.pen(0, 99);
    for (int i = 0; i < 10; i++) {
      keep.write(0, 100 * i + 1, 0, 0);
    }
    return keep;
  }

  /** The first numbers of a SHEET, as DATES of LINES. */
  private static void are(String what, BoardKeep keep, int sheet, int... numbers) {
    keep.dates(sheet);
    for (int i = 0; i < numbers.length; i++) {
      Edge.is(what + ", number " + i, numbers[i], keep.lineIs(i, 4));
    }
  }

  // ---- term 4

  @Says(at = "T4", text = "SHEETS 0 .. 3 are rows of 8, 16, 32 bits, at most 24 numbers, or missing (as at first).")
  static void sheets() {
    BoardKeep keep = new BoardKeep();
    for (int sheet = 0; sheet <= 3; sheet++) {
      Edge.is("missing at first, SHEET " + sheet, Due.NONE, keep.put(sheet, 0, 0));
      for (int bits = 8; bits <= 32; bits *= 2) {
        Edge.is("24 of " + bits + " bits", 1, keep.sheet(sheet, bits, 24));
        Edge.is("the last", 1, keep.put(sheet, 23, 1));
        Edge.is("one more", Due.BEYOND, keep.put(sheet, 24, 1));
        Edge.is("25 of " + bits + " bits", Due.BEYOND, keep.sheet(sheet, bits, 25));
      }
    }
    Edge.is("SHEET 4", Due.BEYOND, keep.sheet(4, 8, 1));
  }

  // ---- promise 27

  @Says(at = "P27", text = "A SHEET has n numbers, all 0, of so many bits")
  static void allNought() {
    BoardKeep keep = tenLate();
    Edge.setSheet(keep, 0, 8, 9, 9, 9);
    keep.sheet(0, 8, 3);
    are("of the same bits", keep, 0, 0, 0, 0, 1000);
    Edge.setSheet(keep, 0, 8, 9, 9, 9);
    keep.sheet(0, 32, 2);
    keep.sheet(0, 32, 4);
    are("of others, longer", keep, 0, 0, 0, 0, 0, 1000);
    keep.sheet(1, 16, 0);
    Edge.is("none", Due.BEYOND, keep.put(1, 0, 0));
    Edge.is("none, but not missing", 0, keep.dates(1));
  }

  @Says(at = "P27", text = "(8, 16, 32; 0: it is missing, n doesn't matter): 1.")
  static void missing() {
    BoardKeep keep = new BoardKeep();
    for (int n : new int[] {0, 1, 24, 25, -1, Edge.MIN, Edge.MAX}) {
      keep.sheet(2, 8, 2);
      Edge.is("0 bits, n " + n, 1, keep.sheet(2, 0, n));
      Edge.is("is missing", Due.NONE, keep.put(2, 0, 1));
    }
    Edge.is("what is missing already", 1, keep.sheet(3, 0, 0));
    Edge.is("still is", Due.NONE, keep.judge(3));
    Edge.is("no SHEET 4, though n doesn't matter", Due.BEYOND, keep.sheet(4, 0, 0));
  }

  @Says(at = "P27", text = "BEYOND.")
  static void sheetBeyond() {
    Edge.within("sheet", 0, 3, sheet -> new BoardKeep().sheet(sheet, 8, 1));
    Edge.within("n, not below 0", 0, 24, n -> n < 0 ? Due.BEYOND : new BoardKeep().sheet(0, 8, n));
    Edge.beyond("bits", bits -> new BoardKeep().sheet(0, bits, 1), 1, 7, 9, 15, 17, 24, 31, 33, 64, -8, -1, 40, Edge.MIN, Edge.MAX);
    BoardKeep keep = new BoardKeep();
    keep.sheet(0, 8, 2);
    keep.sheet(0, 16, 25);
    keep.sheet(0, 7, 1);
    Edge.is("it has two still", 1, keep.put(0, 1, 1));
    Edge.is("and no third", Due.BEYOND, keep.put(0, 2, 1));
  }

  @Says(at = "P27", text = "STATE: n is below 0 (ahead of BEYOND of n).")
  static void sheetState() {
    for (int n : new int[] {-1, -2, -25, Edge.MIN, Edge.MIN + 1}) {
      Edge.is("n " + n, Due.STATE, new BoardKeep().sheet(0, 32, n));
    }
    Edge.is("BEYOND of bits is ahead of it", Due.BEYOND, new BoardKeep().sheet(0, 7, -1));
    Edge.is("BEYOND of the SHEET, too", Due.BEYOND, new BoardKeep().sheet(4, 8, -1));
    BoardKeep keep = new BoardKeep();
    keep.sheet(0, 8, 2);
    keep.sheet(0, 16, -1);
    Edge.is("it has two still", 1, keep.put(0, 1, 1));
    Edge.is("and no third", Due.BEYOND, keep.put(0, 2, 1));
  }

  // ---- promise 28

  @Says(at = "P28", text = "Number i of a SHEET becomes v (its lowest bits): 1.")
  static void lowestBits() {
    int[][] rows = {
      {8, 1, 1}, {8, 127, 127}, {8, 256, 0}, {8, 257, 1}, {8, Edge.MIN, 0}, {8, 0x7FFFFF05, 5}, {8, -256 + 3, 3},
      {16, 300, 300}, {16, 65536, 0}, {16, 65537, 1}, {16, 0x7FFF0105, 0x105}, {16, Edge.MIN, 0}, {32, 1000, 1000}};
    for (int[] row : rows) {
      BoardKeep keep = tenLate();
      keep.sheet(0, row[0], 1);
      Edge.is("put " + row[1], 1, keep.put(0, 0, row[1]));
      Edge.is("in " + row[0] + " bits is one of them", 1, keep.dates(0));
      Edge.is(row[1] + " in " + row[0] + " bits", row[2], keep.lineIs(0, 4));
    }
    BoardKeep each = tenLate();
    each.sheet(0, 8, 1);
    each.sheet(1, 16, 1);
    each.sheet(2, 32, 1);
    for (int sheet = 0; sheet < 3; sheet++) {
      each.put(sheet, 0, 257 + (sheet == 2 ? 0 : 65536));
      each.dates(sheet);
      Edge.is("each by its own bits, SHEET " + sheet, sheet == 0 ? 1 : 257, each.lineIs(0, 4));
    }
    BoardKeep keep = tenLate();
    keep.sheet(0, 32, 1);
    keep.put(0, 0, 65536);
    Edge.is("65536 in 32 bits is above DAY", 0, keep.dates(0));
    keep.put(0, 0, Edge.MIN);
    Edge.is("MIN in 32 bits is below 0", 0, keep.dates(0));
  }

  @Says(at = "P28", text = "BEYOND: no such SHEET.")
  static void putNoSheet() {
    Edge.within("sheet", 0, 3, sheet -> new BoardKeep().put(sheet, 0, 0));
  }

  @Says(at = "P28", text = "NONE: it is missing.")
  static void putMissing() {
    BoardKeep keep = new BoardKeep();
    Edge.is("at first", Due.NONE, keep.put(1, 0, 0));
    Edge.is("ahead of the number", Due.NONE, keep.put(1, -1, 0));
    keep.sheet(1, 8, 1);
    Edge.is("there", 1, keep.put(1, 0, 0));
    keep.sheet(1, 0, 1);
    Edge.is("again", Due.NONE, keep.put(1, 0, 0));
  }

  @Says(at = "P28", text = "BEYOND: no such number.")
  static void putNoNumber() {
    Edge.within("number of 24", 0, 23, i -> of(24).put(0, i, 1));
    Edge.within("number of 1", 0, 0, i -> of(1).put(0, i, 1));
    Edge.beyond("number of none", i -> of(0).put(0, i, 1), 0, 1, -1);
  }

  private static BoardKeep of(int numbers) {
    BoardKeep keep = new BoardKeep();
    keep.sheet(0, 8, numbers);
    return keep;
  }

  // ---- promise 29

  @Says(at = "P29", text = "n numbers of a SHEET, from number i on, come to another one (or the same), from its number j on, as they all were: n.")
  static void moveAsTheyWere() {
    BoardKeep keep = tenLate();
    Edge.setSheet(keep, 0, 16, 1, 2, 3, 4, 5);
    Edge.is("on by one", 4, keep.move(0, 0, 0, 1, 4));
    are("on by one", keep, 0, 1, 1, 2, 3, 4);
    Edge.setSheet(keep, 0, 16, 1, 2, 3, 4, 5);
    Edge.is("back by two", 3, keep.move(0, 2, 0, 0, 3));
    are("back by two", keep, 0, 3, 4, 5, 4, 5);
    Edge.is("where it is", 5, keep.move(0, 0, 0, 0, 5));
    are("where it is", keep, 0, 3, 4, 5, 4, 5);
    Edge.setSheet(keep, 1, 16, 9, 8);
    Edge.is("to another", 1, keep.move(1, 1, 0, 4, 1));
    are("to another", keep, 0, 3, 4, 5, 4, 8);
    are("the other stays", keep, 1, 9, 8);
    Edge.is("none", 0, keep.move(1, 0, 0, 0, 0));
    are("none", keep, 0, 3, 4, 5, 4, 8);
    keep.sheet(2, 8, 24);
    Edge.is("all of 24", 24, keep.move(2, 0, 2, 0, 24));
  }

  @Says(at = "P29", text = "BEYOND: no such SHEET.")
  static void moveNoSheet() {
    Edge.within("sheet", 0, 3, sheet -> new BoardKeep().move(sheet, 0, 0, 0, 0));
    Edge.within("other", 0, 3, other -> new BoardKeep().move(0, 0, other, 0, 0));
    Edge.is("ahead of one that is missing", Due.BEYOND, new BoardKeep().move(0, 0, 4, 0, 0));
  }

  @Says(at = "P29", text = "NONE: one is missing.")
  static void moveMissing() {
    BoardKeep keep = of(3);
    Edge.is("both", Due.NONE, keep.move(1, 0, 2, 0, 0));
    Edge.is("the other", Due.NONE, keep.move(0, 0, 1, 0, 0));
    Edge.is("the one", Due.NONE, keep.move(1, 0, 0, 0, 0));
    Edge.is("ahead of n below 0", Due.NONE, keep.move(1, 0, 0, 0, -1));
  }

  @Says(at = "P29", text = "KIND: they are of unlike bits.")
  static void moveUnlike() {
    BoardKeep keep = of(3);
    keep.sheet(1, 16, 3);
    keep.sheet(2, 32, 3);
    keep.sheet(3, 32, 3);
    Edge.is("8, 16", Due.KIND, keep.move(0, 0, 1, 0, 1));
    Edge.is("32, 16", Due.KIND, keep.move(2, 0, 1, 0, 1));
    Edge.is("8, 32", Due.KIND, keep.move(0, 0, 2, 0, 0));
    Edge.is("32, 32", 3, keep.move(2, 0, 3, 0, 3));
    Edge.is("ahead of n below 0", Due.KIND, keep.move(0, 0, 1, 0, -1));
  }

  @Says(at = "P29", text = "BEYOND: n, i, or j is below 0, or they don't stand there.")
  static void moveBeyond() {
    Edge.within("n", 0, 3, n -> threeAndFive().move(0, 0, 1, 0, n));
    Edge.within("n the other way", 0, 3, n -> threeAndFive().move(1, 0, 0, 0, n));
    Edge.within("i of 2", 0, 1, i -> threeAndFive().move(0, i, 1, 0, 2));
    Edge.within("j of 2", 0, 3, j -> threeAndFive().move(0, 0, 1, j, 2));
    Edge.within("i of none", 0, 3, i -> threeAndFive().move(0, i, 1, 0, 0));
    Edge.within("j of none", 0, 5, j -> threeAndFive().move(0, 0, 1, j, 0));
    int[][] wrong = {
      {Edge.MAX, 0, Edge.MAX}, {0, Edge.MAX, Edge.MAX}, {1, 0, Edge.MAX}, {Edge.MAX, 0, 1}, {0, Edge.MAX, 1}, {Edge.MIN, 0, Edge.MIN},
      {-1, 0, 1}, {0, -1, 1}, {1, 0, -1}, {Edge.MIN, Edge.MIN, 0}, {0, 0, Edge.MIN}};
    for (int[] row : wrong) {
      BoardKeep keep = threeAndFive();
      Edge.is("move " + row[0] + ", " + row[1] + ", " + row[2], Due.BEYOND, keep.move(0, row[0], 1, row[1], row[2]));
    }
  }

  private static BoardKeep threeAndFive() {
    BoardKeep keep = of(3);
    keep.sheet(1, 8, 5);
    return keep;
  }

  // ---- promise 30

  @Says(at = "P30", text = "how many, up to the first that is not 0 to DAY (no ERROR then)")
  static void datesToDay() {
    BoardKeep keep = tenLate();
    Edge.setSheet(keep, 0, 32, 0, 1000, 999, 1001, 5);
    Edge.is("0 and DAY are right", 3, keep.dates(0));
    are("up to DAY", keep, 0, 0, 1000, 999, 1000, 1000);
    Edge.setSheet(keep, 0, 32, 7, -1, 5);
    Edge.is("-1 isn't", 1, keep.dates(0));
    are("up to -1", keep, 0, 7, 1000, 999);
    Edge.setSheet(keep, 0, 32, 1001, 8);
    Edge.is("none", 0, keep.dates(0));
    are("none", keep, 0, 7, 1000);
    Edge.setSheet(keep, 0, 32, Edge.MAX, 8);
    Edge.is("MAX", 0, keep.dates(0));
    Edge.setSheet(keep, 0, 32, Edge.MIN, 8);
    Edge.is("MIN", 0, keep.dates(0));
    for (int k = 1; k <= 6; k++) {
      Edge.is("no ERROR, told(" + k + ")", 0, keep.told(k));
    }
    BoardKeep first = Edge.lines(0);
    Edge.setSheet(first, 0, 8, 1);
    Edge.is("1 on DAY 0", 0, first.dates(0));
    first.put(0, 0, 0);
    Edge.is("0 on DAY 0", 1, first.dates(0));
  }

  @Says(at = "P30", text = "or for which there is no LINE.")
  static void datesNoLine() {
    BoardKeep keep = Edge.lines(20, 0);
    keep.days(3);
    Edge.setSheet(keep, 0, 8, 1, 2, 3);
    Edge.is("two LINES", 2, keep.dates(0));
    Edge.is("the second", 2, keep.lineIs(1, 4));
    keep.wipe(0);
    Edge.setSheet(keep, 0, 8, 3, 3, 3);
    Edge.is("what is GONE is a LINE", 2, keep.dates(0));
    Edge.is("its DATE", 3, keep.lineIs(0, 4));
    BoardKeep none = of(3);
    Edge.is("no LINES", 0, none.dates(0));
    BoardKeep ten = Edge.full();
    ten.sheet(0, 8, 24);
    Edge.is("ten LINES", 10, ten.dates(0));
    ten.sheet(0, 8, 0);
    Edge.is("no numbers", 0, ten.dates(0));
    Edge.is("no ERROR", 0, ten.told(1) + ten.told(2) + none.told(1) + none.told(2));
  }

  @Says(at = "P30", text = "BEYOND: no such SHEET.")
  static void datesNoSheet() {
    Edge.within("sheet", 0, 3, sheet -> new BoardKeep().dates(sheet));
  }

  @Says(at = "P30", text = "NONE: it is missing.")
  static void datesMissing() {
    Edge.is("without LINES", Due.NONE, new BoardKeep().dates(0));
    Edge.is("missing", Due.NONE, Edge.lines(0).dates(3));
  }

  /** Which shows by the AGE of them, too: it is never below 0. */
  @Says(at = "P30", text = "Numbers of a SHEET become DATES of LINES 0, 1, ..")
  static void datesAreDates() {
    BoardKeep keep = Edge.aged(0, 7);
    Edge.is("MAY GO", 1, keep.lineIs(0, 7));
    Edge.setSheet(keep, 0, 8, 1);
    keep.dates(0);
    Edge.is("AGE 6: BACK", 20, keep.lineIs(0, 8));
    Edge.is("AGE 6: MAY not GO", 0, keep.lineIs(0, 7));
    keep.put(0, 0, 7);
    keep.dates(0);
    Edge.is("AGE 0: BACK", 50, keep.lineIs(0, 8));
  }

  // ---- promise 31

  @Says(at = "P31", text = "Numbers of a SHEET are BACK of LINES 0, 1, .. now: how many are right, from the first on.")
  static void judge() {
    BoardKeep keep = Edge.lines(0, 10, 20);
    Edge.setSheet(keep, 0, 8, 50, 70, 25);
    Edge.is("all", 3, keep.judge(0));
    Edge.setSheet(keep, 0, 8, 50, 71, 25);
    Edge.is("from the first on", 1, keep.judge(0));
    Edge.setSheet(keep, 0, 8, 49, 70, 25);
    Edge.is("none", 0, keep.judge(0));
    Edge.setSheet(keep, 0, 16, 50, 70, 25, 0, 0);
    Edge.is("no more than there are LINES", 3, keep.judge(0));
    Edge.setSheet(keep, 0, 32, 50, 70);
    Edge.is("fewer numbers", 2, keep.judge(0));
    Edge.setSheet(keep, 0, 32, 65536 + 50);
    Edge.is("its lowest bits alone aren't enough", 0, keep.judge(0));
    keep.sheet(0, 8, 0);
    Edge.is("no numbers", 0, keep.judge(0));
    keep.sheet(0, 8, 24);
    Edge.is("24 that are 0", 0, keep.judge(0));
    keep.days(10);
    Edge.is("now: LINE's is 0, SUM's isn't", 1, keep.judge(0));
    keep.become(1, 0);
    keep.become(2, 59);
    Edge.is("now: all are 0", 3, keep.judge(0));
  }

  @Says(at = "P31", text = "BEYOND: no such SHEET.")
  static void judgeNoSheet() {
    Edge.within("sheet", 0, 3, sheet -> new BoardKeep().judge(sheet));
  }

  @Says(at = "P31", text = "NONE: it is missing.")
  static void judgeMissing() {
    Edge.is("without LINES", Due.NONE, new BoardKeep().judge(0));
    Edge.is("missing", Due.NONE, Edge.lines(0).judge(3));
  }
}
