/** TEXTS: term 2, and promises 10 to 13. */
final class TextEdges {
  private TextEdges() {
  }

  private static String times(String part, int times) {
    StringBuilder all = new StringBuilder();
    for (int i = 0; i < times; i++) {
      all.append(part);
    }
    return all.toString();
  }

  private static void reads(String text) {
    Edge.is("'" + text + "'", 1, Due.text(new BoardKeep(), 0, text));
  }

  private static void fault(String text, int fault) {
    Edge.is("'" + text + "'", -10 - fault, Due.text(new BoardKeep(), 0, text));
  }

  /** What a LOSS of these NAMES is by a text. */
  private static void worth(String text, int b, int m, int p, int want) {
    BoardKeep keep = new BoardKeep();
    Edge.is("'" + text + "' is read", 1, Due.text(keep, 0, text));
    Edge.is("'" + text + "' of " + b + ", " + m + ", " + p, want, keep.law(0, b, m, p));
  }

  // ---- term 2

  @Says(at = "T2", text = "TEXTS are read from THE TAPE (bytes, at most 60)")
  static void sixtyBytes() {
    String sixty = times("1+", 29) + "12";
    BoardKeep keep = new BoardKeep();
    Edge.is("sixty are fed", 60, Due.feed(keep, sixty));
    Edge.is("no more", Due.FULL, keep.feed('1', 1));
    Edge.is("sixty are read", 1, keep.text(0));
    Edge.is("the last is, too", 41, keep.law(0, 0, 0, 0));
    worth("!b" + times("+1", 29), 0, 0, 0, 30);
    worth("1+2*(1+2*(1+2*(1+2*(1+2*(1+2*3)))))", 0, 0, 0, 255);
    worth("b|m&p<b+m*(b|m&p<b+m*(b|m&p<b+m*(b|m&p<b+m*(b|m&p<b+m))))", 0, 1, 0, 1);
  }

  @Says(at = "T2", text = "T: A { | A }.")
  static void anyOf() {
    worth("b", 7, 0, 0, 7);
    worth("b|m", 0, 7, 0, 1);
    worth("b|m|p|b", 0, 0, 7, 1);
    worth("b|m|p|b", 0, 0, 0, 0);
    worth("b=b|m", 0, 0, 0, 1);
    fault("|b", 0);
    fault("b||m", 2);
    fault("b|", 2);
  }

  @Says(at = "T2", text = "A: B { & B }.")
  static void allOf() {
    worth("b&m", 5, 7, 0, 1);
    worth("b&m&p&b", 1, 2, 3, 1);
    worth("b&m&p&b", 1, 2, 0, 0);
    worth("b|m&p", 1, 1, 0, 1);
    worth("b&m|p", 0, 1, 1, 1);
    worth("b&m<p", 1, 2, 1, 0);
    fault("&b", 0);
    fault("b&|m", 2);
    fault("b&", 2);
  }

  @Says(at = "T2", text = "S: P { + P, - P }.")
  static void sums() {
    worth("b-m-p", 9, 3, 2, 4);
    worth("b-m+p", 9, 3, 2, 8);
    worth("b+m-p+b", 9, 3, 2, 19);
    worth("b+m<p", 1, 1, 3, 1);
    worth("b+(m<p)", 1, 1, 3, 2);
    worth("p>b+m", 1, 1, 3, 1);
    fault("+b", 0);
    fault("b+-m", 2);
    fault("b-", 2);
  }

  @Says(at = "T2", text = "P: Q { * Q, / Q, % Q }.")
  static void products() {
    worth("b/m/p", 90, 3, 2, 15);
    worth("b/m*p", 9, 2, 2, 8);
    worth("b*m/p", 9, 3, 2, 13);
    worth("b%m*p", 9, 5, 3, 12);
    worth("b*m%p", 9, 5, 7, 3);
    worth("b+m*p", 1, 2, 3, 7);
    worth("b*m+p", 1, 2, 3, 5);
    worth("b-m/p", 9, 6, 3, 7);
    worth("!b*m", 0, 5, 0, 5);
    fault("*b", 0);
    fault("b*/m", 2);
    fault("b%", 2);
  }

  @Says(at = "T2", text = "B: S, or S < S, S = S, S > S.")
  static void comparedOnce() {
    for (String sign : new String[] {"<", "=", ">"}) {
      reads("b" + sign + "m");
      for (String another : new String[] {"<", "=", ">"}) {
        fault("b" + sign + "m" + another + "p", 3);
        fault("(b" + sign + "m" + another + "p)", 4);
        reads("b" + sign + "m&m" + another + "p");
        reads("b" + sign + "m|m" + another + "p");
        reads("(b" + sign + "m)" + another + "p");
        reads("b" + sign + "(m" + another + "p)");
      }
    }
  }

  @Says(at = "T2", text = "Q: a NUMBER of 1 to 4 digits, a NAME, ! Q, ( T ).")
  static void digits() {
    worth("7", 0, 0, 0, 7);
    worth("0007", 0, 0, 0, 7);
    worth("9999-9990", 0, 0, 0, 9);
    worth("1234-1000", 0, 0, 0, 234);
    fault("", 0);
    fault("12345", 4);
    fault("00000", 4);
    fault("b+12345", 6);
    fault("(12345)", 5);
  }

  @Says(at = "T2", text = "a NAME, ! Q, ( T )")
  static void names() {
    for (char sign = 0; sign < 256; sign++) {
      int open = "!(".indexOf(sign) >= 0 ? -11 : -10;
      Edge.is("LOSS, byte " + (int) sign, "bmp0123456789".indexOf(sign) >= 0 ? 1 : open, text(sign, 0));
      Edge.is("GAIN, byte " + (int) sign, "fdw0123456789".indexOf(sign) >= 0 ? 1 : open, text(sign, 1));
    }
  }

  private static int text(char sign, int use) {
    BoardKeep keep = new BoardKeep();
    keep.feed(sign, 1);
    return keep.text(use);
  }

  @Says(at = "T2", text = "No blanks.")
  static void noBlanks() {
    fault(" ", 0);
    fault(" b", 0);
    fault("b ", 1);
    fault("b +m", 1);
    fault("b+ m", 2);
    fault("( b)", 1);
    fault("! b", 1);
    fault("1 2", 1);
    fault("b\t", 1);
    fault("b\n", 1);
  }

  @Says(at = "T2", text = "At most 5 of ! and ( are open at once.")
  static void fiveOpen() {
    worth("!!!!!b", 0, 0, 0, 1);
    fault("!!!!!!b", 5);
    worth("(((((b)))))", 8, 0, 0, 8);
    fault("((((((b))))))", 5);
    worth("!(!(!b))", 0, 0, 0, 1);
    fault("!(!(!(b)))", 5);
    fault("!!!!!(b)", 5);
    fault("(((((!b)))))", 5);
    fault("!!!!!!", 5);
    fault("!!!!!", 5);
  }

  @Says(at = "T2", text = "are open at once")
  static void closedAgain() {
    worth("!!!!!b+!!!!!m", 0, 1, 0, 1);
    worth("(((((b)))))+(((((m)))))", 3, 4, 0, 7);
    worth("!!!!(b)+!!!!!m", 1, 0, 0, 2);
    worth("(!!!!b+!!!!m)", 1, 1, 0, 2);
    fault("(!!!!b+!!!!!m)", 11);
    worth("((((b)+(m))))", 1, 2, 0, 3);
    fault("(((((b)+((m))))))", 9);
  }

  @Says(at = "T2", text = "Ints that wrap; / cut, % the rest that it leaves, both by 0 are 0")
  static void intsWrap() {
    worth("b+m=0-2", Edge.MAX, Edge.MAX, 0, 1);
    worth("b+1=m", Edge.MAX, Edge.MIN, 0, 1);
    worth("b-1=m", Edge.MIN, Edge.MAX, 0, 1);
    worth("b*b", 1 << 16, 0, 0, 0);
    worth("b*m+p", 65537, 65537, -131072, 1);
    worth("0-b=b", Edge.MIN, 0, 0, 1);
    worth("b<m", Edge.MIN, Edge.MAX, 0, 1);
    worth("b>m", Edge.MAX, Edge.MIN, 0, 1);
  }

  @Says(at = "T2", text = "/ cut, % the rest that it leaves, both by 0 are 0")
  static void divided() {
    worth("b/m", 7, 2, 0, 3);
    worth("b/m+9", -7, 2, 0, 6);
    worth("b/m+9", 7, -2, 0, 6);
    worth("b%m+9", -7, 2, 0, 8);
    worth("b%m+9", 7, -2, 0, 10);
    worth("b%m", 6, 3, 0, 0);
    worth("b/m=b", Edge.MIN, -1, 0, 1);
    worth("b%m", Edge.MIN, -1, 0, 0);
  }

  @Says(at = "T2", text = "both by 0 are 0")
  static void dividedByNought() {
    worth("b/m", 7, 0, 0, 0);
    worth("b/m", 0, 0, 0, 0);
    worth("b%m", 7, 0, 0, 0);
    worth("b%m", -7, 0, 0, 0);
    worth("b/(m-m)+5", 7, 3, 0, 5);
    worth("5+b%(m-m)", 7, 3, 0, 5);
    worth("b/0", 7, 0, 0, 0);
    worth("b%0", 7, 0, 0, 0);
  }

  @Says(at = "T2", text = "| & < = > ! are 1 or 0, what is not 0 being true; all is worked out.")
  static void trueOrNot() {
    int[][] rows = {{0, 0, 0, 0}, {5, 0, 1, 0}, {0, 5, 1, 0}, {-5, 5, 1, 1}, {Edge.MIN, 2, 1, 1}};
    for (int[] row : rows) {
      worth("b|m", row[0], row[1], 0, row[2]);
      worth("b&m", row[0], row[1], 0, row[3]);
    }
    worth("!b", 0, 0, 0, 1);
    worth("!b", 5, 0, 0, 0);
    worth("!b", -5, 0, 0, 0);
    worth("!!b", -5, 0, 0, 1);
    worth("b<m", 1, 2, 0, 1);
    worth("b<m", 2, 2, 0, 0);
    worth("b=m", 2, 2, 0, 1);
    worth("b=m", 2, -2, 0, 0);
    worth("b>m", 2, 2, 0, 0);
    worth("b>m", -1, -2, 0, 1);
  }

  @Says(at = "T2", text = "FAULT: the place of the first byte with which no TEXT goes on")
  static void faultAt() {
    fault("x", 0);
    fault("bb", 1);
    fault("b1", 1);
    fault("1b", 1);
    fault("+b", 0);
    fault("-1", 0);
    fault("b+*m", 2);
    fault("b&&m", 2);
    fault("b!", 1);
    fault("b!=m", 1);
    fault("()", 1);
    fault(")", 0);
    fault("b)", 1);
    fault("(b))", 3);
    fault("(b)(m)", 3);
    fault("(b)m", 3);
    fault("b(m)", 1);
    fault("b,m", 1);
    // The first one, though there are more behind it.
    fault("xxx", 0);
    fault("b+x+x", 2);
  }

  @Says(at = "T2", text = "how many there are, if it ends too early")
  static void endsTooEarly() {
    fault("", 0);
    fault("b+", 2);
    fault("b|", 2);
    fault("b<", 2);
    fault("b*", 2);
    fault("!", 1);
    fault("(", 1);
    fault("(b", 2);
    fault("((b)", 4);
    fault("b&!(m", 5);
    fault(times("1+", 30), 60);
    fault("(" + times("1+", 29) + "1", 60);
  }

  @Says(at = "T2", text = "0 LOSS: NAMES b BACK, m m, p PHOTO; held within 0 .. 999")
  static void lossHeld() {
    worth("b", 999, 0, 0, 999);
    worth("b", 1000, 0, 0, 999);
    worth("b", Edge.MAX, 0, 0, 999);
    worth("b", 0, 0, 0, 0);
    worth("b", -1, 0, 0, 0);
    worth("b", Edge.MIN, 0, 0, 0);
    worth("p", 1, 2, 998, 998);
    worth("m", 1, 77, 3, 77);
    BoardKeep keep = Edge.lines(34);
    keep.photo(0, 1);
    Due.text(keep, 0, "b*9-m+p");
    Edge.is("b, m, p of a LINE", 74 * 9 - 4 + 1, keep.lineIs(0, 9));
    BoardKeep two = Edge.lines(3, 7);
    two.photo(1, 1);
    Due.text(two, 0, "b*10+m*100+p");
    Edge.is("those of one LINE", 530 + 300, two.lineIs(0, 9));
    Due.text(two, 0, "b+m*100+p");
    Edge.is("those of another", 57 + 700 + 1, two.lineIs(1, 9));
  }

  @Says(at = "T2", text = "without a TEXT b, if there is no PHOTO, b by 2 (cut), if p is 1.")
  static void lossWithout() {
    BoardKeep keep = new BoardKeep();
    Edge.is("no PHOTO", 51, keep.law(0, 51, 9, 0));
    Edge.is("a PHOTO", 25, keep.law(0, 51, 9, 1));
    Edge.is("1 by 2", 0, keep.law(0, 1, 9, 1));
    Edge.is("held", 999, keep.law(0, 1000, 9, 0));
    Edge.is("held after it is cut", 999, keep.law(0, 1999, 9, 1));
    Edge.is("by 2, so not held", 998, keep.law(0, 1997, 9, 1));
    Edge.is("held below", 0, keep.law(0, -1, 9, 0));
    BoardKeep line = Edge.lines(5);
    Edge.is("LOSS", 55, line.lineIs(0, 9));
    line.photo(0, 1);
    Edge.is("LOSS by a PHOTO", 27, line.lineIs(0, 9));
  }

  @Says(at = "T2", text = "1 GAIN: NAMES f how many COLUMNS, d the rest of DAY by 7, w how many LINES are on them; held within 0 .. 999")
  static void gainHeld() {
    BoardKeep keep = new BoardKeep();
    Due.text(keep, 1, "f");
    Edge.is("999", 999, keep.law(1, 999, 0, 0));
    Edge.is("1000", 999, keep.law(1, 1000, 0, 0));
    Edge.is("0", 0, keep.law(1, 0, 0, 0));
    Edge.is("-1", 0, keep.law(1, -1, 0, 0));
    Due.text(keep, 1, "d*100+w*10+f");
    int[] days = {0, 1, 6, 7, 8, 13, 14};
    for (int day : days) {
      Edge.toDay(keep, day);
      Edge.is("d on DAY " + day, day % 7 * 100 + 3, keep.room(3, 3));
    }
    keep.write(20, 12, 0, 0);
    keep.days(1);
    Edge.is("w 1", 112, keep.room(2, 3));
  }

  @Says(at = "T2", text = "without a TEXT 10*f (ints that wrap; held likewise)")
  static void gainWithout() {
    BoardKeep keep = new BoardKeep();
    Edge.is("0", 0, keep.law(1, 0, 5, 5));
    Edge.is("99", 990, keep.law(1, 99, 5, 5));
    Edge.is("100", 999, keep.law(1, 100, 5, 5));
    Edge.is("-1", 0, keep.law(1, -1, 5, 5));
    // 10 * 429496730 is 2 to the 32nd, and 4
    Edge.is("wraps up to 4", 4, keep.law(1, 429496730, 5, 5));
    Edge.is("wraps below 0", 0, keep.law(1, 214748365, 5, 5));
    Edge.is("MIN wraps to 0", 0, keep.law(1, Edge.MIN, 5, 5));
    Edge.is("wraps from below 0", 999, keep.law(1, -214748366, 5, 5));
    Edge.is("of twelve COLUMNS", 120, keep.room(12, 3));
  }

  // ---- promise 10

  @Says(at = "P10", text = "The n lowest bytes (1 .. 8) of a word, the lowest first, come to THE TAPE: how many there are.")
  static void feed() {
    BoardKeep keep = new BoardKeep();
    Edge.is("one", 1, keep.feed(0x6262626262626231L, 1));
    keep.text(0);
    Edge.is("the lowest alone", 1, keep.law(0, 7, 7, 7));
    Edge.is("eight", 8, keep.feed(0x392B2A392B2A3231L, 8));
    Edge.is("the lowest first: 12*+", -13, keep.text(0));
    Edge.is("eight more", 8, keep.feed(0x3930302D39303031L, 8));
    Edge.is("one behind them", 9, keep.feed('1', 1));
    Edge.is("in their order", 1, keep.text(0));
    Edge.is("1009-0091", 918, keep.law(0, 0, 0, 0));
    keep.feed(0xFFFFFFFFFFFFFFE2L, 1);
    Edge.is("a byte of 226 isn't a b", -10, keep.text(0));
    keep.feed(0x100000062L, 1);
    Edge.is("bytes above don't come", 1, keep.text(0));
    keep.feed(0x80L << 56, 8);
    Edge.is("the highest byte, too", 8, keep.count(4));
  }

  @Says(at = "P10", text = "BEYOND.")
  static void feedBeyond() {
    Edge.within("n", 1, 8, n -> new BoardKeep().feed(0L, n));
    BoardKeep keep = new BoardKeep();
    keep.feed(0L, 0);
    keep.feed(0L, 9);
    keep.feed(0L, -1);
    Edge.is("none came", 0, keep.count(4));
  }

  @Says(at = "P10", text = "FULL.")
  static void feedFull() {
    BoardKeep keep = new BoardKeep();
    for (int i = 0; i < 7; i++) {
      keep.feed(0L, 8);
    }
    Edge.is("five of four", Due.FULL, keep.feed(0L, 5));
    Edge.is("none of them came", 56, keep.count(4));
    Edge.is("three of four", 59, keep.feed(0L, 3));
    Edge.is("two of one", Due.FULL, keep.feed(0L, 2));
    Edge.is("one of one", 60, keep.feed(0L, 1));
    Edge.is("one of none", Due.FULL, keep.feed(0L, 1));
    Edge.is("told", 3, keep.told(4));
  }

  // ---- promise 11

  @Says(at = "P11", text = "THE TAPE, which is empty then, is the TEXT of a USE (0, 1), in place of one ahead: 1.")
  static void text() {
    BoardKeep keep = new BoardKeep();
    for (int use = 0; use < 2; use++) {
      Edge.is("read", 1, Due.text(keep, use, "11"));
      Edge.is("empty then", 0, keep.count(4));
      Edge.is("is it", 11, keep.law(use, 1, 1, 1));
      Edge.is("another, which is shorter", 1, Due.text(keep, use, "2"));
      Edge.is("in place of it", 2, keep.law(use, 1, 1, 1));
    }
    Due.text(keep, 1, "w");
    Edge.is("the other's stays", 2, keep.law(0, 1, 1, 9));
    Edge.is("its own", 9, keep.law(1, 1, 1, 9));
    Edge.is("NAMES of the other USE", -10, Due.text(keep, 0, "w"));
    Edge.is("NAMES of the other USE", -12, Due.text(keep, 1, "w+b"));
  }

  @Says(at = "P11", text = "in place of one ahead")
  static void textInPlace() {
    BoardKeep keep = new BoardKeep();
    String sixty = "!b" + times("+1", 29);
    for (int time = 0; time < 3; time++) {
      Edge.is("sixty bytes", 1, Due.text(keep, 0, sixty));
      Edge.is("are it, whole", 30, keep.law(0, 0, 0, 0));
      Edge.is("a FAULT at the last of sixty", -69, Due.text(keep, 0, sixty.substring(0, 59) + "x"));
      Edge.is("leaves it", 30, keep.law(0, 0, 0, 0));
    }
    Edge.is("one byte", 1, Due.text(keep, 0, "7"));
    Edge.is("is it", 7, keep.law(0, 0, 0, 0));
    Edge.is("sixty again", 1, Due.text(keep, 0, sixty));
    Edge.is("are it", 30, keep.law(0, 0, 0, 0));
  }

  @Says(at = "P11", text = "BEYOND (THE TAPE stays).")
  static void textBeyond() {
    Edge.within("use", 0, 1, use -> new BoardKeep().text(use));
    BoardKeep keep = new BoardKeep();
    Due.feed(keep, "12");
    keep.text(2);
    keep.text(-1);
    Edge.is("THE TAPE stays", 2, keep.count(4));
    Due.feed(keep, "3");
    Edge.is("and goes on", 1, keep.text(0));
    Edge.is("as it was", 123, keep.law(0, 0, 0, 0));
  }

  @Says(at = "P11", text = "-10 less the FAULT (no ERROR; the one ahead stays; THE TAPE is empty, too).")
  static void textFault() {
    BoardKeep keep = new BoardKeep();
    Due.text(keep, 0, "b+1");
    Edge.is("FAULT 0", -10, Due.text(keep, 0, "x"));
    Edge.is("empty", 0, keep.count(4));
    Edge.is("an empty TAPE", -10, keep.text(0));
    Edge.is("FAULT 4", -14, Due.text(keep, 0, "1+2+x"));
    Edge.is("empty, too", 0, keep.count(4));
    Edge.is("the one ahead stays", 6, keep.law(0, 5, 0, 0));
    Edge.is("there is one", 1, keep.untell(0));
    Edge.is("FAULT of the first one ever", -10, Due.text(keep, 1, "b"));
    Edge.is("there is none", 0, keep.untell(1));
    for (int k = 1; k <= 6; k++) {
      Edge.is("no ERROR, told(" + k + ")", 0, keep.told(k));
    }
  }

  // ---- promises 12 and 13

  @Says(at = "P12", text = "There is no TEXT of a USE any more: 1 if there was, else 0.")
  static void untell() {
    for (int use = 0; use < 2; use++) {
      BoardKeep keep = new BoardKeep();
      Due.text(keep, use, "3");
      Edge.is("the other had none", 0, keep.untell(1 - use));
      Edge.is("there was one", 1, keep.untell(use));
      Edge.is("none any more", 0, keep.untell(use));
      Edge.is("as without", use == 0 ? 7 : 70, keep.law(use, 7, 0, 0));
      Edge.is("another one", 1, Due.text(keep, use, "4"));
      Edge.is("is there", 4, keep.law(use, 7, 0, 0));
    }
  }

  @Says(at = "P12", text = "BEYOND.")
  static void untellBeyond() {
    Edge.within("use", 0, 1, use -> new BoardKeep().untell(use));
    BoardKeep keep = new BoardKeep();
    Due.text(keep, 0, "3");
    Due.text(keep, 1, "3");
    keep.untell(2);
    keep.untell(-1);
    Edge.is("both stay", 2, keep.untell(0) + keep.untell(1));
  }

  @Says(at = "P13", text = "BEYOND.")
  static void lawBeyond() {
    Edge.within("use", 0, 1, use -> new BoardKeep().law(use, 1, 1, 1));
    BoardKeep keep = new BoardKeep();
    Due.text(keep, 0, "3");
    Due.text(keep, 1, "3");
    Edge.is("use 2, with TEXTS", Due.BEYOND, keep.law(2, 1, 1, 1));
    Edge.is("use -1, with TEXTS", Due.BEYOND, keep.law(-1, 1, 1, 1));
  }

  @Says(at = "P13", text = "What a USE gives with its NAMES in order as a, b, c (any number).")
  static void law() {
    BoardKeep keep = new BoardKeep();
    Due.text(keep, 0, "b/(m+1)+p");
    Edge.is("any number", 1, keep.law(0, Edge.MAX, Edge.MIN, 2));
    Edge.is("any number", 3, keep.law(0, Due.BEYOND, -2, -999999998));
    Due.text(keep, 1, "f=w&d<f");
    Edge.is("any number", 1, keep.law(1, Edge.MAX, Edge.MIN, Edge.MAX));
    Due.text(keep, 1, "f*100+d*10+w");
    Edge.is("in order", 123, keep.law(1, 1, 2, 3));
    Due.text(keep, 0, "b*100+m*10+p");
    Edge.is("in order", 123, keep.law(0, 1, 2, 3));
  }
}
