/** DAYS: term 1 from where a DAY goes by on, and promises 14 to 16. */
final class DayEdges {
  private static final int PEOPLE = 6;
  private static final int KINDS = 7;

  private DayEdges() {
  }

  /** z behind one draw, as the document tells it, by longs. */
  private static int next(int z) {
    return (int) (z * 1103515245L + 12345L);
  }

  private static int next(int z, int draws) {
    int then = z;
    for (int i = 0; i < draws; i++) {
      then = next(then);
    }
    return then;
  }

  /** The rest that the draw with number i (from 1) behind a z leaves. */
  private static int drawn(int z, int i, int by) {
    return (int) ((next(z, i) & 0xFFFFFFFFL) / 256 % by);
  }

  /** The least z (from 0) with which the draws with numbers i and j leave these rests. */
  private static int seed(int i, int by, int rest, int j, int by2, int rest2) {
    int z = 0;
    while (drawn(z, i, by) != rest || drawn(z, j, by2) != rest2) {
      z++;
    }
    return z;
  }

  // ---- a DAY goes by

  @Says(at = "T1", text = "A DAY goes by: INK of each PEN p is 1 less (0 at least), if p and 2 divides DAY; then DAY is 1 more.")
  static void dayGoesBy() {
    for (int pen = 0; pen < 5; pen++) {
      BoardKeep keep = new BoardKeep();
      int left = 40;
      for (int day = 0; day < 14; day++) {
        keep.days(1);
        left -= day % (pen + 2) == 0 ? 1 : 0;
        Edge.is("PEN " + pen + " behind DAY " + day, left, Edge.ink(keep, pen));
        Edge.is("DAY", day + 1, keep.count(1));
      }
    }
  }

  @Says(at = "T1", text = "(0 at least), if p and 2 divides DAY")
  static void inkNotBelow() {
    BoardKeep keep = new BoardKeep();
    for (int pen = 0; pen < 5; pen++) {
      keep.pen(pen, pen == 0 ? 1 : 0);
    }
    keep.days(1);
    for (int pen = 0; pen < 5; pen++) {
      Edge.is("INK of " + pen, 0, Edge.ink(keep, pen));
    }
    keep.days(90);
    for (int pen = 0; pen < 5; pen++) {
      Edge.is("INK of " + pen + " later", 0, Edge.ink(keep, pen));
    }
  }

  // ---- by draws

  @Says(at = "T1", text = "BY DRAWS a DAY: if there are LINES, a draw")
  static void drawIfThereAreLines() {
    BoardKeep none = new BoardKeep();
    int column = drawn(1, 1, 12);
    none.loose(1);
    Edge.is("without LINES the first draw is a COLUMN", 1 << column, none.free(0));
    Edge.is("three draws", next(1, 3), none.count(7));
    BoardKeep one = new BoardKeep();
    one.write(0, 12, 0, 0);
    one.loose(1);
    Edge.is("with a LINE two draws, if it stays on all COLUMNS", next(1, 2), one.count(7));
    BoardKeep gone = Edge.aged(20, 1);
    gone.wipe(0);
    gone.loose(1);
    Edge.is("what is GONE is a LINE: four draws", next(1, 4), gone.count(7));
  }

  @Says(at = "T1", text = "the one that is its rest by how many there are is WIPED, if it MAY GO.")
  static void drawnIsWiped() {
    for (int line = 0; line < 3; line++) {
      BoardKeep keep = Edge.lines(20, 20, 20);
      keep.days(1);
      // A LINE more comes where the one was WIPED, so the other two are as they were.
      keep.seed(seed(1, 3, line, 2, 12, line));
      Edge.is("one was WIPED", 1, keep.loose(1));
      for (int i = 0; i < 3; i++) {
        Edge.is("LINE " + i + " GONE, of drawn " + line, i == line ? 1 : 0, keep.lineIs(i, 6));
      }
      Edge.is("LOST", 22, keep.count(3));
    }
  }

  @Says(at = "T1", text = "is WIPED, if it MAY GO")
  static void drawnStays() {
    BoardKeep early = Edge.aged(0, 6);
    Edge.is("too early", 0, early.loose(1));
    Edge.is("stays", 0, early.lineIs(0, 6));
    Edge.is("nothing LOST", 0, early.count(3));
    for (int line = 0; line < 2; line++) {
      BoardKeep two = Edge.lines(20, 0);
      two.days(1);
      two.seed(seed(1, 2, line, 2, 12, 0));
      Edge.is("the first MAY, the second not: LINE " + line, line == 0 ? 1 : 0, two.loose(1));
      BoardKeep turned = Edge.lines(0, 20);
      turned.days(1);
      turned.seed(seed(1, 2, line, 2, 12, 0));
      Edge.is("the second MAY, the first not: LINE " + line, line == 0 ? 0 : 1, turned.loose(1));
    }
    BoardKeep ripe = Edge.aged(0, 7);
    Edge.is("just so", 1, ripe.loose(1));
    Edge.is("GONE", 1, ripe.lineIs(0, 6));
    BoardKeep gone = Edge.aged(0, 7);
    gone.wipe(0);
    Edge.is("GONE ahead", 0, gone.loose(1));
    Edge.is("LOST once", 15, gone.count(3));
  }

  @Says(at = "T1", text = "Then another draw: its rest by 12 is a COLUMN; if that is FREE, and there are less than 10 LINES, two draws")
  static void drawnColumn() {
    for (int column = 0; column < 12; column++) {
      BoardKeep keep = new BoardKeep();
      keep.write(40, 601, 0, 0);
      keep.seed(seed(2, 12, column, 1, 1, 0));
      int z = keep.count(7);
      keep.loose(1);
      boolean free = column != 6;
      Edge.is("LINES, by COLUMN " + column, free ? 2 : 1, keep.count(0));
      Edge.is("draws, by COLUMN " + column, next(z, free ? 4 : 2), keep.count(7));
      Edge.is("TAKEN, by COLUMN " + column, 1 << 6 | 1 << column, keep.free(0));
    }
    BoardKeep wiped = Edge.aged(20, 1);
    wiped.seed(seed(1, 1, 0, 2, 12, 0));
    wiped.loose(1);
    Edge.is("the COLUMN of what was WIPED this DAY is FREE", 2, wiped.count(0));
  }

  @Says(at = "T1", text = "there are less than 10 LINES")
  static void lessThanTen() {
    BoardKeep nine = Edge.lines(41, 41, 41, 41, 41, 41, 41, 41, 41);
    nine.seed(seed(2, 12, 11, 1, 1, 0));
    nine.loose(1);
    Edge.is("nine LINES: one more", 10, nine.count(0));
    BoardKeep ten = Edge.lines(41, 41, 41, 41, 41, 41, 41, 41, 41, 41);
    int z = seed(2, 12, 11, 1, 1, 0);
    ten.seed(z);
    ten.loose(1);
    Edge.is("ten LINES: none more", 10, ten.count(0));
    Edge.is("and no draws for it", next(z, 2), ten.count(7));
    Edge.is("FREE it stays", 1023, ten.free(0));
    BoardKeep gone = Edge.lines(20, 20, 20, 20, 20, 20, 20, 20, 20, 20);
    gone.days(1);
    gone.wipe(0);
    gone.seed(seed(2, 12, 0, 1, 10, 0));
    gone.loose(1);
    Edge.is("what is GONE counts", 10, gone.count(0));
  }

  @Says(at = "T1", text = "a LINE more, on that COLUMN alone, of the KIND that is the first one's rest by 7, m 0, of the one of the PEOPLE that is "
      + "the second one's rest by 6 (no PEN gets less).")
  static void drawnLine() {
    for (int rest = 0; rest < KINDS; rest++) {
      BoardKeep keep = new BoardKeep();
      keep.days(5);
      for (int pen = 0; pen < 5; pen++) {
        keep.pen(pen, 0);
      }
      keep.seed(seed(2, KINDS, rest, 3, PEOPLE, rest % PEOPLE));
      int column = drawn(keep.count(7), 1, 12);
      keep.loose(1);
      int[] told = {rest, 0, 1 << column, rest % PEOPLE, 5, 0, 0};
      for (int what = 0; what < told.length; what++) {
        Edge.is("what " + what + ", by rest " + rest, told[what], keep.lineIs(0, what));
      }
    }
    BoardKeep inks = new BoardKeep();
    inks.days(1);
    inks.loose(1);
    for (int pen = 0; pen < 5; pen++) {
      Edge.is("INK of " + pen, 39, Edge.ink(inks, pen));
    }
  }

  @Says(at = "T1", text = "Then a DAY.")
  static void thenADay() {
    BoardKeep keep = new BoardKeep();
    keep.loose(1);
    Edge.is("DAY", 1, keep.count(1));
    Edge.is("INK by DAY 0", 39, Edge.ink(keep, 4));
    Edge.is("it came ahead of that", 0, keep.lineIs(0, 4));
    keep.loose(30);
    Edge.is("thirty more", 31, keep.count(1));
    // DAYS 0 .. 30 that are divided by 6
    Edge.is("INK by 31 DAYS", 34, Edge.ink(keep, 4));
  }

  @Says(at = "T1", text = "DRAWS: z is told (1 at first); each makes it z * 1103515245 + 12345 (an int), and gives z >>> 8.")
  static void draws() {
    Edge.is("at first", 1, new BoardKeep().count(7));
    int[] seeds = {1, 0, -1, 2, 3, 12345, Edge.MIN, Edge.MAX, -1600000000};
    int below = 0;
    for (int z : seeds) {
      BoardKeep keep = new BoardKeep();
      keep.seed(z);
      keep.loose(1);
      Edge.is("z behind " + z, next(z, 3), keep.count(7));
      Edge.is("COLUMN behind " + z, 1 << drawn(z, 1, 12), keep.lineIs(0, 2));
      Edge.is("KIND behind " + z, drawn(z, 2, 7), keep.lineIs(0, 0));
      Edge.is("whose behind " + z, drawn(z, 3, 6), keep.lineIs(0, 3));
      below += next(z) < 0 ? 1 : 0;
    }
    Edge.is("some z are below 0", 1, below > 2 ? 1 : 0);
    for (int lowest : new int[] {0, 255}) {
      int z = 0;
      while ((next(z) & 255) != lowest) {
        z++;
      }
      BoardKeep keep = new BoardKeep();
      keep.seed(z);
      keep.loose(1);
      Edge.is("the lowest eight bits, " + lowest + ", don't count", 1 << drawn(z, 1, 12), keep.lineIs(0, 2));
    }
  }

  // ---- promise 14

  @Says(at = "P14", text = "n (1 .. 90) DAYS go by: DAY.")
  static void days() {
    BoardKeep keep = new BoardKeep();
    Edge.is("n 1", 1, keep.days(1));
    Edge.is("n 90", 91, keep.days(90));
    Edge.is("DAY", 91, keep.count(1));
    // DAYS 0 .. 90 that are divided by 6
    Edge.is("INK by each of them", 24, Edge.ink(keep, 4));
    Edge.is("nothing is drawn", 1, keep.count(7));
  }

  @Says(at = "P14", text = "BEYOND.")
  static void daysBeyond() {
    Edge.within("n", 1, 90, n -> new BoardKeep().days(n));
    BoardKeep keep = new BoardKeep();
    keep.days(0);
    keep.days(91);
    Edge.is("none went by", 0, keep.count(1));
  }

  @Says(at = "P14", text = "STATE: it would be above 9999.")
  static void daysAbove() {
    BoardKeep keep = new BoardKeep();
    Edge.toDay(keep, 9910);
    Edge.is("90 of 89", Due.STATE, keep.days(90));
    Edge.is("none went by", 9910, keep.count(1));
    Edge.is("88 of 89", 9998, keep.days(88));
    Edge.is("2 of 1", Due.STATE, keep.days(2));
    Edge.is("1 of 1", 9999, keep.days(1));
    Edge.is("1 of 0", Due.STATE, keep.days(1));
    Edge.is("BEYOND is asked ahead of it", Due.BEYOND, keep.days(0));
  }

  // ---- promise 15

  @Says(at = "P15", text = "BEYOND.")
  static void looseBeyond() {
    Edge.within("n", 1, 30, n -> new BoardKeep().loose(n));
    BoardKeep keep = new BoardKeep();
    keep.loose(0);
    keep.loose(31);
    Edge.is("none went by", 0, keep.count(1));
    Edge.is("nothing was drawn", 1, keep.count(7));
  }

  @Says(at = "P15", text = "n (1 .. 30) DAYS BY DRAWS: how many LINES were WIPED.")
  static void loose() {
    BoardKeep keep = new BoardKeep();
    keep.loose(30);
    Edge.is("thirty", 30, keep.count(1));
    int gone = 0;
    for (int line = 0; line < keep.count(0); line++) {
      gone += keep.lineIs(line, 6);
    }
    BoardKeep again = new BoardKeep();
    Edge.is("how many were WIPED", gone, again.loose(30));
    BoardKeep byOne = new BoardKeep();
    int wiped = 0;
    for (int day = 0; day < 30; day++) {
      wiped += byOne.loose(1);
    }
    Edge.is("DAY by DAY as at once", gone, wiped);
    Edge.is("and z", keep.count(7), byOne.count(7));
  }

  @Says(at = "P15", text = "STATE: DAY would be above 9999.")
  static void looseAbove() {
    BoardKeep keep = new BoardKeep();
    Edge.toDay(keep, 9970);
    Edge.is("30 of 29", Due.STATE, keep.loose(30));
    Edge.is("nothing was drawn", 1, keep.count(7));
    Edge.is("none went by", 9970, keep.count(1));
    keep.loose(28);
    Edge.is("28 of 29", 9998, keep.count(1));
    Edge.is("2 of 1", Due.STATE, keep.loose(2));
    keep.loose(1);
    Edge.is("1 of 1", 9999, keep.count(1));
    Edge.is("1 of 0", Due.STATE, keep.loose(1));
    Edge.is("BEYOND is asked ahead of it", Due.BEYOND, keep.loose(31));
  }

  // ---- promise 16

  @Says(at = "P16", text = "z becomes v: what it was (any number).")
  static void seedAny() {
    BoardKeep keep = new BoardKeep();
    int was = 1;
    for (int v : new int[] {0, -1, Edge.MIN, Edge.MAX, Due.BEYOND, Due.PARTED, 1}) {
      Edge.is("what it was", was, keep.seed(v));
      Edge.is("what it is", v, keep.count(7));
      was = v;
    }
    for (int k = 1; k <= 6; k++) {
      Edge.is("no ERROR, told(" + k + ")", 0, keep.told(k));
    }
  }
}
