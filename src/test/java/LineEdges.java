/** LINES: term 1 up to where a LINE is WIPED, and promises 1 to 9. */
final class LineEdges {
  private LineEdges() {
  }

  // ---- the board

  @Says(at = "T1", text = "THE BOARD has COLUMNS 0 .. 11.")
  static void columns() {
    BoardKeep keep = new BoardKeep();
    Edge.is("twelve", 12, keep.free(1));
    Edge.is("the first", 0, keep.write(0, 1, 0, 0));
    Edge.is("the last", 1, keep.write(0, 1101, 0, 0));
    Edge.is("none behind", Due.BEYOND, keep.write(0, 1201, 0, 0));
    Edge.is("both TAKEN", 1 + (1 << 11), keep.free(0));
  }

  @Says(at = "T1", text = "DAY (0 .. 9999; 0 at first)")
  static void day() {
    BoardKeep keep = new BoardKeep();
    Edge.is("at first", 0, keep.count(1));
    Edge.toDay(keep, Edge.LAST_DAY);
    Edge.is("at last", 9999, keep.count(1));
    Edge.is("no more", Due.STATE, keep.days(1));
    Edge.is("still", 9999, keep.count(1));
  }

  @Says(at = "T1", text = "SPIRIT there is (1) or not (0, at first)")
  static void spiritAtFirst() {
    Edge.is("count(2)", 0, new BoardKeep().count(2));
    Edge.is("spirit(0)", 0, new BoardKeep().spirit(0));
  }

  /** 99999 is more than ten LINES can give; the most that they can is told whole. */
  @Says(at = "T1", text = "LOST (0 .. 99999; 0 at first)")
  static void lost() {
    BoardKeep keep = Edge.lines(20, 20, 20, 20, 20, 20, 20, 20, 20, 20);
    Edge.is("at first", 0, keep.count(3));
    Due.text(keep, 0, "9999");
    keep.days(1);
    for (int line = 0; line < 10; line++) {
      keep.wipe(line);
    }
    Edge.is("of ten LINES", 9990, keep.count(3));
  }

  @Says(at = "T1", text = "PENS 0 .. 4, each with INK (0 .. 99; 40 at first)")
  static void pens() {
    for (int pen = 0; pen <= 4; pen++) {
      BoardKeep keep = new BoardKeep();
      Edge.is("at first, PEN " + pen, 40, keep.pen(pen, 99));
      Edge.is("99, PEN " + pen, 99, keep.pen(pen, 0));
      Edge.is("0, PEN " + pen, 0, keep.pen(pen, 1));
    }
    Edge.is("PEN 5", Due.BEYOND, new BoardKeep().pen(5, 1));
  }

  @Says(at = "T1", text = "LINES 0, 1, .. (at most 10)")
  static void tenLines() {
    BoardKeep keep = new BoardKeep();
    for (int line = 0; line < 10; line++) {
      Edge.is("LINE " + line, line, keep.write(0, 100 * line + 1, 0, 0));
    }
    Edge.is("LINE 10", Due.FULL, keep.write(0, 1001, 0, 0));
    Edge.is("ten", 10, keep.count(0));
  }

  @Says(at = "T1", text = "of KINDS: 0 LINE, 1 SUM under LINE, 2 ARROW under LINE, 3 GREEN under LINE, 4 FRAMED under SUM, "
      + "5 BOXED under ARROW, 6 STAIN under LINE")
  static void kinds() {
    int[][] under = {{0}, {0, 1}, {0, 2}, {0, 3}, {0, 1, 4}, {0, 2, 5}, {0, 6}};
    for (int kind = 0; kind < 7; kind++) {
      int many = 0;
      for (int asked = 0; asked < 7; asked++) {
        many += Edge.lines(10 * kind + 2).as(0, asked) == 2 ? 1 : 0;
      }
      Edge.is("how many KIND " + kind + " is under", under[kind].length, many);
      for (int above : under[kind]) {
        Edge.is("KIND " + kind + " is under " + above, 2, Edge.lines(10 * kind + 2).as(0, above));
      }
    }
  }

  @Says(at = "T1", text = "each with a number m (0 .. 9)")
  static void numbers() {
    BoardKeep keep = Edge.lines(30, 39);
    Edge.is("least", 0, keep.lineIs(0, 1));
    Edge.is("most", 9, keep.lineIs(1, 1));
    Edge.is("KIND of both", 3, keep.lineIs(0, 0));
    Edge.is("KIND of both", 3, keep.lineIs(1, 0));
  }

  @Says(at = "T1", text = "on COLUMNS beside one another, of one of PEOPLE 0 .. 5")
  static void people() {
    Edge.within("who", 0, 5, who -> new BoardKeep().write(0, 1, who, 0));
    BoardKeep keep = new BoardKeep();
    keep.write(0, 203, 0, 0);
    keep.write(0, 502, 5, 0);
    Edge.is("COLUMNS", 4 + 8 + 16, keep.lineIs(0, 2));
    Edge.is("COLUMNS", 32 + 64, keep.lineIs(1, 2));
    Edge.is("the first", 0, keep.lineIs(0, 3));
    Edge.is("the last", 5, keep.lineIs(1, 3));
  }

  @Says(at = "T1", text = "DATED (the DAY on which it came), with a PHOTO (1) or without (0, at first), GONE (1) or not (0, at first)")
  static void atFirst() {
    BoardKeep keep = Edge.aged(0, Edge.LAST_DAY);
    keep.pen(0, 1);
    keep.write(0, 101, 0, 0);
    Edge.is("DATED on DAY 0", 0, keep.lineIs(0, 4));
    Edge.is("DATED on the last DAY", 9999, keep.lineIs(1, 4));
    Edge.is("without a PHOTO", 0, keep.lineIs(1, 5));
    Edge.is("not GONE", 0, keep.lineIs(1, 6));
  }

  @Says(at = "T1", text = "AGE: DAY less DATED.")
  static void age() {
    BoardKeep keep = Edge.aged(0, 9998);
    keep.pen(0, 1);
    keep.write(0, 101, 0, 0);
    Edge.is("AGE 0: BACK", 50, keep.lineIs(1, 8));
    keep.days(1);
    Edge.is("AGE 1: BACK", 45, keep.lineIs(1, 8));
    Edge.is("AGE 9999: BACK", 0, keep.lineIs(0, 8));
    Edge.is("AGE 9999: MAY GO", 1, keep.lineIs(0, 7));
    Edge.setSheet(keep, 0, 32, 9993, 9992);
    keep.dates(0);
    Edge.is("AGE 6 by another DATE", 0, keep.lineIs(0, 7));
    Edge.is("AGE 7 by another DATE", 1, keep.lineIs(1, 7));
  }

  @Says(at = "T1", text = "A COLUMN is TAKEN, if a LINE that isn't GONE is on it; else FREE.")
  static void taken() {
    BoardKeep keep = new BoardKeep();
    Edge.is("FREE at first", 0, keep.free(0));
    keep.write(20, 304, 0, 0);
    Edge.is("TAKEN", 15 << 3, keep.free(0));
    keep.days(1);
    Edge.is("TAKEN by what MAY GO", 15 << 3, keep.free(0));
    keep.wipe(0);
    Edge.is("FREE if it is GONE", 0, keep.free(0));
    keep.write(20, 501, 0, 0);
    Edge.is("TAKEN by another", 1 << 5, keep.free(0));
  }

  // ---- whether it may go

  /** It MAY GO from this AGE on, and not a DAY ahead. */
  private static void ripe(int km, int spirit, int age) {
    BoardKeep keep = Edge.aged(km, age - 1);
    keep.spirit(spirit);
    Edge.is("km " + km + " at AGE " + (age - 1), 0, keep.lineIs(0, 7));
    Edge.is("not WIPED then", Due.STATE, keep.wipe(0));
    keep.days(1);
    Edge.is("km " + km + " at AGE " + age, 1, keep.lineIs(0, 7));
    Edge.toDay(keep, age + 100);
    Edge.is("km " + km + " at AGE " + (age + 100), 1, keep.lineIs(0, 7));
  }

  private static void never(int km, int spirit) {
    for (int age : new int[] {0, 1, 7, 63, 9999}) {
      BoardKeep keep = Edge.aged(km, age);
      keep.spirit(spirit);
      Edge.is("km " + km + " at AGE " + age, 0, keep.lineIs(0, 7));
    }
  }

  @Says(at = "T1", text = "It MAY GO: LINE: if AGE is 7 or more.")
  static void lineMayGo() {
    ripe(0, 0, 7);
    ripe(9, 1, 7);
  }

  @Says(at = "T1", text = "SUM: as LINE, and if AGE is 7 times m or more.")
  static void sumMayGo() {
    ripe(10, 0, 7);
    ripe(11, 0, 7);
    ripe(12, 0, 14);
    ripe(19, 0, 63);
  }

  @Says(at = "T1", text = "ARROW: if AGE is 1 or more.")
  static void arrowMayGo() {
    ripe(20, 0, 1);
    ripe(29, 1, 1);
  }

  @Says(at = "T1", text = "GREEN: as LINE.")
  static void greenMayGo() {
    ripe(30, 0, 7);
    ripe(39, 0, 7);
  }

  @Says(at = "T1", text = "FRAMED: as SUM, if m is 0; else never.")
  static void framedMayGo() {
    ripe(40, 0, 7);
    never(41, 0);
    never(49, 1);
  }

  @Says(at = "T1", text = "BOXED: as ARROW, and if AGE is m or more.")
  static void boxedMayGo() {
    ripe(50, 0, 1);
    ripe(51, 0, 1);
    ripe(52, 0, 2);
    ripe(59, 0, 9);
  }

  @Says(at = "T1", text = "STAIN: as LINE, if there is SPIRIT.")
  static void stainMayGo() {
    ripe(60, 1, 7);
    ripe(69, 1, 7);
    never(60, 0);
    BoardKeep keep = Edge.aged(60, 7);
    keep.spirit(1);
    Edge.is("with SPIRIT", 1, keep.lineIs(0, 7));
    keep.spirit(0);
    Edge.is("with none any more", 0, keep.lineIs(0, 7));
  }

  @Says(at = "T1", text = "(What is GONE never MAY.)")
  static void goneNeverMay() {
    BoardKeep keep = Edge.aged(20, 1);
    keep.wipe(0);
    Edge.is("at once", 0, keep.lineIs(0, 7));
    Edge.is("not WIPED twice", Due.STATE, keep.wipe(0));
    keep.days(90);
    Edge.is("later", 0, keep.lineIs(0, 7));
    keep.become(0, 0);
    Edge.is("as another KIND", 0, keep.lineIs(0, 7));
    Edge.is("nor WIPED so", Due.STATE, keep.wipe(0));
  }

  // ---- how likely somebody comes back

  private static void back(int km, int age, int photo, int want) {
    BoardKeep keep = Edge.aged(km, age);
    keep.photo(0, photo);
    Edge.is("km " + km + " AGE " + age + " PHOTO " + photo, want, keep.lineIs(0, 8));
  }

  @Says(at = "T1", text = "BACK (of a hundred): LINE: 50 less 5 times AGE (0 at least), and m.")
  static void lineBack() {
    back(0, 0, 0, 50);
    back(9, 0, 1, 59);
    back(3, 9, 0, 8);
    back(3, 10, 0, 3);
    back(3, 11, 0, 3);
    back(0, 9999, 0, 0);
    back(9, 9999, 0, 9);
  }

  @Says(at = "T1", text = "SUM: as LINE, and 20.")
  static void sumBack() {
    back(10, 0, 1, 70);
    back(19, 0, 0, 79);
    back(10, 10, 0, 20);
    back(19, 11, 0, 29);
  }

  @Says(at = "T1", text = "ARROW: half of LINE's (cut).")
  static void arrowBack() {
    back(20, 0, 0, 25);
    back(21, 0, 1, 25);
    back(29, 0, 0, 29);
    back(21, 11, 0, 0);
    back(29, 11, 0, 4);
  }

  @Says(at = "T1", text = "GREEN: as LINE, and 20, if there is a PHOTO.")
  static void greenBack() {
    back(39, 0, 0, 59);
    back(39, 0, 1, 79);
    back(30, 11, 0, 0);
    back(30, 11, 1, 20);
  }

  @Says(at = "T1", text = "FRAMED: as SUM, and 20.")
  static void framedBack() {
    back(40, 0, 0, 90);
    back(49, 0, 1, 99);
    back(40, 11, 0, 40);
  }

  @Says(at = "T1", text = "BOXED: as ARROW, less m.")
  static void boxedBack() {
    back(50, 0, 0, 25);
    back(51, 0, 0, 24);
    back(59, 0, 1, 20);
    back(53, 8, 0, 3);
  }

  @Says(at = "T1", text = "STAIN: as LINE, and 5.")
  static void stainBack() {
    back(60, 0, 0, 55);
    back(69, 0, 1, 64);
    back(60, 11, 0, 5);
  }

  /** 99, by a FRAMED one, is the most there is; below 0 only a BOXED one would fall. */
  @Says(at = "T1", text = "(All held within 0 .. 100 in the end.)")
  static void backHeld() {
    back(51, 10, 0, 0);
    back(52, 10, 0, 0);
    back(59, 10, 0, 0);
    back(59, 9, 0, 0);
    back(59, 7, 0, 3);
    back(49, 0, 0, 99);
  }

  @Says(at = "T1", text = "TO WIPE a LINE: it is GONE; LOST is LOSS more (held at 99999).")
  static void wiped() {
    BoardKeep keep = Edge.lines(20, 20, 21);
    keep.days(1);
    keep.photo(1, 1);
    keep.wipe(0);
    Edge.is("GONE", 1, keep.lineIs(0, 6));
    Edge.is("LOST", 22, keep.count(3));
    keep.wipe(1);
    Edge.is("LOST, of a PHOTO half", 22 + 11, keep.count(3));
    Due.text(keep, 0, "0-b");
    keep.wipe(2);
    Edge.is("LOST, by a LOSS of 0", 33, keep.count(3));
    Edge.is("GONE, too", 1, keep.lineIs(2, 6));
  }

  // ---- promise 1

  @Says(at = "P1", text = "All as at first; no LINES, no TEXTS.")
  static void newBoard() {
    BoardKeep keep = new BoardKeep();
    Edge.is("no LINES", 0, keep.count(0));
    Edge.is("no LINE 0", Due.BEYOND, keep.lineIs(0, 0));
    Edge.is("no TEXT of LOSS", 0, keep.untell(0));
    Edge.is("no TEXT of GAIN", 0, keep.untell(1));
    Edge.is("THE TAPE is empty", 0, keep.count(4));
    Edge.is("no numbers wait", 0, keep.count(5));
    Edge.is("THE TRACE is empty", 0, keep.count(6));
    Edge.is("no IMAGE", Due.NONE, keep.restore());
    Edge.is("z", 1, keep.count(7));
    for (int k = 3; k <= 6; k++) {
      Edge.is("told(" + k + ")", 0, keep.told(k));
    }
  }

  // ---- promise 2

  @Says(at = "P2", text = "One more LINE (km: 10 times the KIND, and m; ab: 100 times its first COLUMN, and how many)")
  static void writeReads() {
    int[][] rows = {
      {0, 1, 0, 0, 1}, {9, 12, 0, 9, 4095}, {10, 111, 1, 0, 4094}, {59, 602, 5, 9, 3 << 6}, {60, 1002, 6, 0, 3 << 10}, {69, 1101, 6, 9, 1 << 11}};
    for (int[] row : rows) {
      BoardKeep keep = new BoardKeep();
      Edge.is("number of " + row[0], 0, keep.write(row[0], row[1], 0, 0));
      Edge.is("KIND of " + row[0], row[2], keep.lineIs(0, 0));
      Edge.is("m of " + row[0], row[3], keep.lineIs(0, 1));
      Edge.is("COLUMNS of " + row[1], row[4], keep.lineIs(0, 2));
    }
  }

  @Says(at = "P2", text = "DATED now, by a PEN whose INK is less by how many COLUMNS: the number.")
  static void writeInk() {
    for (int pen = 0; pen < 5; pen++) {
      BoardKeep keep = new BoardKeep();
      keep.write(0, 12, 0, pen);
      for (int other = 0; other < 5; other++) {
        Edge.is("by PEN " + pen + ": INK of " + other, other == pen ? 28 : 40, Edge.ink(keep, other));
      }
    }
    BoardKeep last = new BoardKeep();
    last.pen(4, 3);
    Edge.is("with just so much", 0, last.write(0, 3, 0, 4));
    Edge.is("none is left", 0, Edge.ink(last, 4));
  }

  @Says(at = "P2", text = "BEYOND: also COLUMNS that aren't there.")
  static void writeBeyond() {
    Edge.within("km", 0, 69, km -> new BoardKeep().write(km, 1, 0, 0));
    Edge.within("who", 0, 5, who -> new BoardKeep().write(0, 1, who, 0));
    Edge.within("pen", 0, 4, pen -> new BoardKeep().write(0, 1, 0, pen));
  }

  @Says(at = "P2", text = "also COLUMNS that aren't there")
  static void writeNoSuchColumns() {
    Edge.beyond("ab: none", ab -> new BoardKeep().write(0, ab, 0, 0), 0, 100, 1100, 1200);
    Edge.beyond("ab: too many", ab -> new BoardKeep().write(0, ab, 0, 0), 13, 99, 112, 706, 607, 1003, 1102, 1199);
    Edge.beyond("ab: from behind", ab -> new BoardKeep().write(0, ab, 0, 0), 1201, 1301, 10001, Edge.MAX);
    Edge.beyond("ab: below 0", ab -> new BoardKeep().write(0, ab, 0, 0), -1, -99, -100, -101, -199, -1101, Edge.MIN, Edge.MIN + 1);
  }

  /** Of the wrong ones above these are right: as many as there are from there on. */
  @Says(at = "P2", text = "COLUMNS that aren't there")
  static void writeToTheLast() {
    for (int first = 0; first < 12; first++) {
      int many = 12 - first;
      BoardKeep keep = new BoardKeep();
      Edge.is("one more from " + first, Due.BEYOND, keep.write(0, 100 * first + many + 1, 0, 0));
      Edge.is("all from " + first, 0, keep.write(0, 100 * first + many, 0, 0));
    }
  }

  @Says(at = "P2", text = "FULL.")
  static void writeFull() {
    BoardKeep keep = Edge.lines(20, 0, 0, 0, 0, 0, 0, 0, 0);
    Edge.is("the tenth", 9, keep.write(0, 901, 0, 0));
    Edge.is("the eleventh", Due.FULL, keep.write(0, 1001, 0, 0));
    keep.days(1);
    keep.wipe(0);
    Edge.is("what is GONE is a LINE", Due.FULL, keep.write(0, 1, 0, 0));
    Edge.is("told", 2, keep.told(4));
  }

  @Says(at = "P2", text = "STATE: one of them is TAKEN")
  static void writeTaken() {
    BoardKeep keep = new BoardKeep();
    keep.write(0, 502, 0, 0);
    int[] wrong = {502, 501, 601, 402, 602, 12, 303, 605};
    for (int ab : wrong) {
      Edge.is("ab " + ab, Due.STATE, keep.write(0, ab, 0, 1));
    }
    Edge.is("up to it", 1, keep.write(0, 302, 0, 1));
    Edge.is("from behind it on", 2, keep.write(0, 702, 0, 1));
  }

  @Says(at = "P2", text = "STATE: one of them is TAKEN, there is less INK.")
  static void writeLessInk() {
    BoardKeep keep = new BoardKeep();
    keep.pen(0, 11);
    Edge.is("12 by 11", Due.STATE, keep.write(0, 12, 0, 0));
    Edge.is("11 by 11", 0, keep.write(0, 11, 0, 0));
    Edge.is("1 by 0", Due.STATE, keep.write(0, 1101, 0, 0));
    Edge.is("by another PEN", 1, keep.write(0, 1101, 0, 1));
  }

  // ---- promise 3

  @Says(at = "P3", text = "Of a LINE: 0 KIND, 1 m, 2 COLUMNS as a set, 3 whose, 4 DATED, 5 PHOTO, 6 GONE, 7 whether it MAY GO (1, 0), 8 BACK, 9 LOSS.")
  static void lineIs() {
    BoardKeep keep = Edge.aged(0, 3);
    keep.write(28, 802, 4, 0);
    keep.photo(1, 1);
    keep.days(1);
    int[] told = {2, 8, 3 << 8, 4, 3, 1, 0, 1, 26, 13};
    for (int what = 0; what <= 9; what++) {
      Edge.is("what " + what, told[what], keep.lineIs(1, what));
    }
    keep.wipe(1);
    int[] gone = {2, 8, 3 << 8, 4, 3, 1, 1, 0, 26, 13};
    for (int what = 0; what <= 9; what++) {
      Edge.is("GONE, what " + what, gone[what], keep.lineIs(1, what));
    }
  }

  @Says(at = "P3", text = "BEYOND.")
  static void lineIsBeyond() {
    Edge.within("what", 0, 9, what -> Edge.lines(0, 0).lineIs(1, what));
    Edge.within("line", 0, 1, line -> Edge.lines(0, 0).lineIs(line, 9));
    Edge.within("line of ten", 0, 9, line -> Edge.full().lineIs(line, 0));
    Edge.beyond("line of none", line -> new BoardKeep().lineIs(line, 0), 0, 1, -1);
  }

  // ---- promise 4

  @Says(at = "P4", text = "A LINE becomes one of a KIND, with m (km): the KIND that it was.")
  static void become() {
    BoardKeep keep = Edge.lines(35);
    keep.photo(0, 1);
    Edge.is("was", 3, keep.become(0, 69));
    Edge.is("KIND", 6, keep.lineIs(0, 0));
    Edge.is("m", 9, keep.lineIs(0, 1));
    Edge.is("was the last", 6, keep.become(0, 0));
    Edge.is("the first KIND", 0, keep.lineIs(0, 0));
    Edge.is("m 0", 0, keep.lineIs(0, 1));
    Edge.is("the same again", 0, keep.become(0, 0));
    Edge.is("PHOTO stays", 1, keep.lineIs(0, 5));
    Edge.is("DATED stays", 0, keep.lineIs(0, 4));
    keep.days(7);
    keep.wipe(0);
    Edge.is("what is GONE", 0, keep.become(0, 21));
    Edge.is("is one, too", 2, keep.lineIs(0, 0));
    Edge.is("stays GONE", 1, keep.lineIs(0, 6));
  }

  @Says(at = "P4", text = "BEYOND.")
  static void becomeBeyond() {
    Edge.within("km", 0, 69, km -> Edge.lines(0).become(0, km));
    Edge.within("line", 0, 1, line -> Edge.lines(0, 0).become(line, 12));
    Edge.within("line of ten", 0, 9, line -> Edge.full().become(line, 12));
    Edge.beyond("line of none", line -> new BoardKeep().become(line, 0), 0, 1, -1);
  }

  // ---- promise 5

  @Says(at = "P5", text = "A LINE as one of a KIND: m.")
  static void as() {
    Edge.is("m 0", 0, Edge.lines(40).as(0, 4));
    Edge.is("m 9", 9, Edge.lines(49).as(0, 0));
    BoardKeep keep = Edge.lines(49);
    keep.become(0, 13);
    Edge.is("m by now", 3, keep.as(0, 1));
    keep.become(0, 40);
    Edge.is("KIND by now", 0, keep.as(0, 4));
    BoardKeep ten = Edge.lines(0, 11, 22, 33, 44, 55, 66, 7, 18, 29);
    int[] m = {0, 1, 2, 3, 4, 5, 6, 7, 8, 9};
    for (int line = 0; line < 10; line++) {
      Edge.is("m of LINE " + line, m[line], ten.as(line, 0));
      Edge.is("LINE " + line + " as its own KIND", m[line], ten.as(line, ten.lineIs(line, 0)));
    }
  }

  @Says(at = "P5", text = "BEYOND.")
  static void asBeyond() {
    for (int kind : new int[] {-1, 7, 10, 40, Edge.MIN, Edge.MAX}) {
      Edge.is("kind " + kind, Due.BEYOND, Edge.lines(40).as(0, kind));
    }
    Edge.within("line", 0, 1, line -> Edge.lines(0, 0).as(line, 0));
    Edge.within("line of ten", 0, 9, line -> Edge.full().as(line, 0));
    Edge.beyond("line of none", line -> new BoardKeep().as(line, 0), 0, 1, -1);
  }

  @Says(at = "P5", text = "KIND: it isn't of that KIND, nor of one under it.")
  static void asAnother() {
    Edge.is("LINE as SUM", Due.KIND, Edge.lines(5).as(0, 1));
    Edge.is("LINE as STAIN", Due.KIND, Edge.lines(5).as(0, 6));
    Edge.is("SUM as FRAMED, which is under it", Due.KIND, Edge.lines(15).as(0, 4));
    Edge.is("FRAMED as SUM", 5, Edge.lines(45).as(0, 1));
    Edge.is("FRAMED as ARROW", Due.KIND, Edge.lines(45).as(0, 2));
    Edge.is("ARROW as BOXED, which is under it", Due.KIND, Edge.lines(25).as(0, 5));
    Edge.is("BOXED as ARROW", 5, Edge.lines(55).as(0, 2));
    Edge.is("BOXED as SUM", Due.KIND, Edge.lines(55).as(0, 1));
    Edge.is("STAIN as GREEN", Due.KIND, Edge.lines(65).as(0, 3));
    Edge.is("GREEN as STAIN", Due.KIND, Edge.lines(35).as(0, 6));
  }

  // ---- promise 6

  @Says(at = "P6", text = "A LINE has a PHOTO (1), or hasn't (0): what it was.")
  static void photo() {
    BoardKeep keep = Edge.lines(0, 0);
    Edge.is("was without", 0, keep.photo(1, 0));
    Edge.is("was without", 0, keep.photo(1, 1));
    Edge.is("was with", 1, keep.photo(1, 1));
    Edge.is("the other", 0, keep.lineIs(0, 5));
    Edge.is("the other was without", 0, keep.photo(0, 0));
    Edge.is("was with", 1, keep.photo(1, 0));
    Edge.is("is without", 0, keep.lineIs(1, 5));
  }

  @Says(at = "P6", text = "BEYOND.")
  static void photoBeyond() {
    Edge.within("is", 0, 1, is -> Edge.lines(0).photo(0, is));
    Edge.within("line", 0, 1, line -> Edge.lines(0, 0).photo(line, 1));
    Edge.within("line of ten", 0, 9, line -> Edge.full().photo(line, 1));
    Edge.beyond("line of none", line -> new BoardKeep().photo(line, 1), 0, 1, -1);
  }

  // ---- promise 7

  @Says(at = "P7", text = "A LINE is WIPED: its LOSS.")
  static void wipe() {
    Edge.is("LOSS", 15, Edge.aged(0, 7).wipe(0));
    Edge.is("LOSS of 0", 0, Edge.aged(0, 10).wipe(0));
    BoardKeep keep = Edge.aged(0, 7);
    Due.text(keep, 0, "1000");
    Edge.is("LOSS held", 999, keep.wipe(0));
  }

  @Says(at = "P7", text = "BEYOND.")
  static void wipeBeyond() {
    Edge.within("line", 0, 1, line -> Edge.lines(0, 0).wipe(line));
    Edge.within("line of ten", 0, 9, line -> Edge.full().wipe(line));
    Edge.beyond("line of none", line -> new BoardKeep().wipe(line), 0, 1, -1);
  }

  @Says(at = "P7", text = "STATE: it MAY not GO.")
  static void wipeState() {
    BoardKeep keep = Edge.aged(4, 6);
    Edge.is("AGE 6", Due.STATE, keep.wipe(0));
    Edge.is("stays", 0, keep.lineIs(0, 6));
    Edge.is("nothing LOST", 0, keep.count(3));
    keep.days(1);
    Edge.is("AGE 7", 19, keep.wipe(0));
    Edge.is("GONE", Due.STATE, keep.wipe(0));
    Edge.is("LOST once", 19, keep.count(3));
  }

  // ---- promises 8 and 9

  @Says(at = "P8", text = "INK of a PEN becomes v: what it was.")
  static void pen() {
    BoardKeep keep = new BoardKeep();
    Edge.is("was 40", 40, keep.pen(4, 99));
    Edge.is("was 99", 99, keep.pen(4, 0));
    Edge.is("was 0", 0, keep.pen(4, 0));
    Edge.is("its neighbour's", 40, keep.pen(3, 40));
    Edge.is("the first", 40, keep.pen(0, 1));
    Edge.is("the first by now", 1, keep.pen(0, 1));
  }

  @Says(at = "P8", text = "BEYOND.")
  static void penBeyond() {
    Edge.within("pen", 0, 4, pen -> new BoardKeep().pen(pen, 1));
    Edge.within("v", 0, 99, v -> new BoardKeep().pen(0, v));
    BoardKeep keep = new BoardKeep();
    keep.pen(4, 99);
    keep.pen(4, 100);
    Edge.is("100 left it", 99, keep.pen(4, 0));
    keep.pen(4, -1);
    Edge.is("-1 left it", 0, keep.pen(4, 0));
  }

  @Says(at = "P9", text = "There is SPIRIT (1), or isn't (0): what it was.")
  static void spirit() {
    BoardKeep keep = new BoardKeep();
    Edge.is("was none", 0, keep.spirit(1));
    Edge.is("was", 1, keep.spirit(1));
    Edge.is("is", 1, keep.count(2));
    Edge.is("was", 1, keep.spirit(0));
    Edge.is("was none", 0, keep.spirit(0));
    Edge.is("isn't", 0, keep.count(2));
  }

  @Says(at = "P9", text = "BEYOND.")
  static void spiritBeyond() {
    Edge.within("is", 0, 1, is -> new BoardKeep().spirit(is));
    BoardKeep keep = new BoardKeep();
    keep.spirit(1);
    keep.spirit(2);
    keep.spirit(-1);
    Edge.is("stays", 1, keep.count(2));
  }
}
