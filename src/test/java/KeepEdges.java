/** Images, what is told: promises 32 to 37. */
final class KeepEdges {
  private KeepEdges() {
  }

  private static BoardKeep waiting(int... numbers) {
    BoardKeep keep = new BoardKeep();
    for (int number : numbers) {
      keep.tell(number);
    }
    return keep;
  }

  // ---- promises 32 and 33

  @Says(at = "P32", text = "in place of one ahead: how often that was done.")
  static void image() {
    BoardKeep keep = new BoardKeep();
    Edge.is("first", 1, keep.image());
    keep.days(3);
    Edge.is("second", 2, keep.image());
    keep.days(3);
    Edge.is("in place of the one ahead", 3, keep.restore());
    Edge.is("how often isn't of it", 3, keep.image());
    keep.restore();
    Edge.is("nor by restore()", 4, keep.image());
  }

  @Says(at = "P32", text = "All (but SHEETS, THE TRACE, what told() tells, and how often this was done) is kept as an IMAGE")
  static void imageWithout() {
    BoardKeep keep = Edge.lines(0, 15);
    Edge.setSheet(keep, 0, 8, 50, 75);
    keep.voice(0, 0, 1);
    keep.of(6);
    keep.image();
    keep.sheet(0, 16, 1);
    keep.put(0, 0, 50);
    keep.sheet(1, 8, 3);
    keep.voice(1, 2, 1);
    keep.of(6);
    keep.restore();
    Edge.is("SHEETS are as now", 1, keep.judge(0));
    Edge.is("SHEETS of now are there", 0, keep.judge(1));
    Edge.is("THE TRACE is as now", 4, keep.count(6));
    Edge.is("its first", 12, keep.body(0));
    Edge.is("told as now", 2, keep.told(1));
  }

  @Says(at = "P33", text = "All is as the IMAGE has it, which stays: DAY.")
  static void restoreAll() {
    BoardKeep keep = Edge.aged(25, 4);
    keep.write(31, 201, 5, 1);
    keep.photo(1, 1);
    Due.text(keep, 0, "b+1");
    Due.feed(keep, "12");
    keep.tell(36);
    keep.spirit(1);
    keep.seed(-9);
    keep.image();
    for (int time = 0; time < 2; time++) {
      keep.wipe(0);
      keep.loose(5);
      keep.become(1, 60);
      keep.photo(1, 0);
      keep.pen(0, 99);
      keep.spirit(0);
      keep.feed('x', 1);
      keep.text(0);
      keep.untell(0);
      Due.text(keep, 1, "1");
      keep.check();
      Edge.is("DAY", 4, keep.restore());
      asKept(keep);
    }
  }

  private static void asKept(BoardKeep keep) {
    int[] counts = {2, 4, 1, 0, 2, 1};
    for (int what = 0; what < counts.length; what++) {
      Edge.is("count(" + what + ")", counts[what], keep.count(what));
    }
    Edge.is("z", -9, keep.count(7));
    int[][] told = {{2, 5, 1, 0, 0, 0, 0}, {3, 1, 4, 5, 4, 1, 0}};
    for (int line = 0; line < 2; line++) {
      for (int what = 0; what < 7; what++) {
        Edge.is("lineIs(" + line + ", " + what + ")", told[line][what], keep.lineIs(line, what));
      }
    }
    // DAYS 0 and 2, and a COLUMN
    Edge.is("INK", 37, Edge.ink(keep, 0));
    Edge.is("its TEXT", 8, keep.law(0, 7, 0, 0));
    Edge.is("no other TEXT", 70, keep.law(1, 7, 0, 0));
    Edge.is("THE TAPE", 1, keep.text(1));
    Edge.is("its bytes", 12, keep.law(1, 7, 0, 0));
    keep.pen(0, 36);
    Edge.is("what waits", 0, keep.check());
  }

  @Says(at = "P33", text = "All is as the IMAGE has it")
  static void restoreOverMore() {
    BoardKeep keep = Edge.lines(20, 20, 0);
    keep.days(1);
    keep.wipe(0);
    Due.text(keep, 0, "b+m+1");
    Due.feed(keep, "12");
    keep.tell(40);
    keep.image();
    keep.wipe(1);
    keep.write(0, 1, 0, 0);
    Due.feed(keep, "345678901");
    keep.tell(41);
    keep.tell(42);
    keep.restore();
    Edge.is("bytes, with more of them on THE TAPE", 2, keep.count(4));
    Edge.is("numbers, with more that wait", 1, keep.count(5));
    Edge.is("LINES, with more of them", 3, keep.count(0));
    Edge.is("GONE, as it was then", 1, keep.lineIs(0, 6));
    Edge.is("not GONE, as it was then", 0, keep.lineIs(1, 6));
    Edge.is("COLUMNS", 6, keep.free(0));
    Edge.is("LOST", 22, keep.count(3));
    keep.text(1);
    Due.text(keep, 0, "b*m");
    keep.restore();
    Edge.is("a TEXT, with another in its place", 8, keep.law(0, 5, 2, 0));
    Edge.is("no TEXT, with one there", 50, keep.law(1, 5, 2, 0));
    Edge.is("THE TAPE, with none there", 2, keep.count(4));
    keep.check();
    keep.restore();
    Edge.is("numbers, with none that wait", 1, keep.count(5));
  }

  @Says(at = "P33", text = "All is as the IMAGE has it")
  static void restoreEachPen() {
    BoardKeep keep = new BoardKeep();
    for (int pen = 0; pen < 5; pen++) {
      keep.pen(pen, 10 + pen);
    }
    keep.image();
    for (int pen = 0; pen < 5; pen++) {
      keep.pen(pen, 90 + pen);
    }
    keep.restore();
    for (int pen = 0; pen < 5; pen++) {
      Edge.is("INK of " + pen, 10 + pen, Edge.ink(keep, pen));
    }
  }

  @Says(at = "P33", text = "All is as the IMAGE has it")
  static void restoreEachLine() {
    BoardKeep keep = Edge.lines(0, 11, 22, 33, 44, 55, 66, 7, 18, 29);
    keep.image();
    for (int line = 0; line < 10; line++) {
      keep.photo(line, 1);
      keep.become(line, 69);
    }
    keep.restore();
    int[] kinds = {0, 1, 2, 3, 4, 5, 6, 0, 1, 2};
    for (int line = 0; line < 10; line++) {
      Edge.is("KIND of " + line, kinds[line], keep.lineIs(line, 0));
      Edge.is("m of " + line, line, keep.lineIs(line, 1));
      Edge.is("COLUMN of " + line, 1 << line, keep.lineIs(line, 2));
      Edge.is("PHOTO of " + line, 0, keep.lineIs(line, 5));
    }
  }

  @Says(at = "P33", text = "All is as the IMAGE has it")
  static void restoreFewerAndMore() {
    BoardKeep keep = new BoardKeep();
    keep.image();
    keep.write(20, 1, 0, 0);
    keep.photo(0, 1);
    keep.days(1);
    keep.wipe(0);
    keep.restore();
    Edge.is("no LINES", 0, keep.count(0));
    keep.write(0, 1, 0, 0);
    Edge.is("a new one is without a PHOTO", 0, keep.lineIs(0, 5));
    Edge.is("and isn't GONE", 0, keep.lineIs(0, 6));
    keep.image();
    keep.write(0, 101, 0, 0);
    keep.image();
    keep.restore();
    Edge.is("two LINES", 2, keep.count(0));
    Edge.is("DATED", 0, keep.lineIs(1, 4));
  }

  @Says(at = "P33", text = "NONE: there is none.")
  static void restoreNone() {
    BoardKeep keep = Edge.aged(0, 5);
    Edge.is("none", Due.NONE, keep.restore());
    Edge.is("DAY stays", 5, keep.count(1));
    Edge.is("LINES stay", 1, keep.count(0));
    Edge.is("told", 1, keep.told(2));
    keep.image();
    Edge.is("one", 5, keep.restore());
    Edge.is("told once", 1, keep.told(2));
  }

  // ---- promises 34 and 35

  @Says(at = "P34", text = "One more number waits: how many.")
  static void tell() {
    BoardKeep keep = new BoardKeep();
    int[] any = {0, -1, Edge.MIN, Edge.MAX, Due.BEYOND};
    for (int i = 0; i < 24; i++) {
      Edge.is("number " + i, i + 1, keep.tell(any[i % any.length]));
      Edge.is("how many wait", i + 1, keep.count(5));
    }
  }

  @Says(at = "P34", text = "FULL: 24 wait.")
  static void tellFull() {
    BoardKeep keep = waiting(new int[23]);
    Edge.is("the last", 24, keep.tell(0));
    Edge.is("24 wait", Due.FULL, keep.tell(0));
    Edge.is("still 24", 24, keep.count(5));
    Edge.is("told", 1, keep.told(4));
    keep.check();
    Edge.is("none waited", 1, keep.tell(0));
  }

  @Says(at = "P35", text = "The numbers that wait (none do then) are INK of PENS 0, 1, ..: 0; else 1 and the place (from 0) of the first that isn't so")
  static void check() {
    Edge.is("none", 0, waiting().check());
    Edge.is("one", 0, waiting(40).check());
    Edge.is("all five", 0, waiting(40, 40, 40, 40, 40).check());
    Edge.is("the first", 1, waiting(39, 40, 41).check());
    Edge.is("the fifth", 5, waiting(40, 40, 40, 40, 41).check());
    Edge.is("the first that isn't", 2, waiting(40, -40, 0, 40, 40, 40).check());
    BoardKeep keep = waiting(40, 1);
    keep.pen(1, 1);
    Edge.is("INK as it is then", 0, keep.check());
    Edge.is("none waits then", 0, keep.count(5));
    keep.tell(1);
    Edge.is("wrong", 1, keep.check());
    Edge.is("none waits then either", 0, keep.count(5));
    Edge.is("nothing to be wrong", 0, keep.check());
  }

  @Says(at = "P35", text = "(or for which there is no PEN)")
  static void checkNoPen() {
    Edge.is("the sixth", 6, waiting(40, 40, 40, 40, 40, 40).check());
    Edge.is("0, too", 6, waiting(40, 40, 40, 40, 40, 0).check());
    Edge.is("ahead of the seventh", 6, waiting(40, 40, 40, 40, 40, 0, 0).check());
    Edge.is("the fifth is ahead of it", 5, waiting(40, 40, 40, 40, 0, 40).check());
    BoardKeep keep = new BoardKeep();
    for (int i = 0; i < 24; i++) {
      keep.tell(40);
    }
    Edge.is("of 24", 6, keep.check());
  }

  // ---- promises 36 and 37

  @Says(at = "P36", text = "0 LINES, 1 DAY, 2 SPIRIT, 3 LOST, 4 bytes of THE TAPE, 5 numbers that wait, 6 BODIES in THE TRACE, 7 z (any number).")
  static void count() {
    int[] full = {10, 9999, 1, 9990, 60, 24, 6, Edge.MIN};
    BoardKeep most = mostOfAll();
    for (int what = 0; what < 8; what++) {
      Edge.is("at first, what " + what, what == 7 ? 1 : 0, new BoardKeep().count(what));
      Edge.is("at most, what " + what, full[what], most.count(what));
    }
    BoardKeep keep = new BoardKeep();
    for (int k = 1; k <= 6; k++) {
      keep.seed(Due.LOW - k);
      Edge.is("any z", Due.LOW - k, keep.count(7));
    }
    for (int k = 1; k <= 6; k++) {
      Edge.is("no ERROR, told(" + k + ")", 0, keep.told(k));
    }
  }

  private static BoardKeep mostOfAll() {
    BoardKeep keep = Edge.lines(20, 20, 20, 20, 20, 20, 20, 20, 20, 20);
    Due.text(keep, 0, "999");
    Edge.toDay(keep, Edge.LAST_DAY);
    keep.spirit(1);
    for (int line = 0; line < 10; line++) {
      keep.wipe(line);
    }
    for (int bytes = 0; bytes < 60; bytes += 4) {
      keep.feed(0L, 4);
    }
    for (int i = 0; i < 24; i++) {
      keep.tell(0);
    }
    keep.become(0, 40);
    keep.voice(0, 2, 0);
    keep.seed(Edge.MIN);
    return keep;
  }

  @Says(at = "P36", text = "BEYOND.")
  static void countBeyond() {
    Edge.within("what", 0, 7, what -> new BoardKeep().count(what));
    BoardKeep keep = new BoardKeep();
    Edge.is("what 8", Due.BEYOND, keep.count(8));
    Edge.is("is one", 1, keep.told(1));
  }

  @Says(at = "P37", text = "How many acts have answered an ERROR LOW - k (k 1 .. 6)")
  static void told() {
    Edge.within("k", 1, 6, k -> new BoardKeep().told(k));
    BoardKeep keep = Edge.lines(0);
    keep.of(6);
    keep.odds(-1, 0);
    keep.body(0);
    keep.sheet(0, 8, -1);
    for (int i = 0; i < 25; i++) {
      keep.tell(0);
    }
    keep.as(0, 6);
    keep.voice(0, 3, 1);
    int[] told = {0, 2, 1, 1, 1, 1, 1};
    for (int k = 1; k <= 6; k++) {
      Edge.is("told(" + k + ")", told[k], keep.told(k));
      Edge.is("told(" + k + ") again", told[k], keep.told(k));
    }
  }

  @Says(at = "P37", text = "BEYOND: another k (counted, too).")
  static void toldBeyond() {
    BoardKeep keep = new BoardKeep();
    Edge.is("k 0", Due.BEYOND, keep.told(0));
    Edge.is("one", 1, keep.told(1));
    Edge.is("k 7", Due.BEYOND, keep.told(7));
    Edge.is("two", 2, keep.told(1));
    Edge.is("k -1", Due.BEYOND, keep.told(-1));
    Edge.is("three", 3, keep.told(1));
    Edge.is("nothing else", 0, keep.told(2) + keep.told(3) + keep.told(4) + keep.told(5) + keep.told(6));
  }
}
