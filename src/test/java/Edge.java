import java.util.function.IntToLongFunction;

/** What the tests of EdgeTest share. */
final class Edge {
  static final int MIN = Integer.MIN_VALUE;
  static final int MAX = Integer.MAX_VALUE;
  static final int LAST_DAY = 9999;

  private static Due due = new Due("EdgeTest");
  private static String sentence = "";

  private Edge() {
  }

  static Due begin() {
    due = new Due("EdgeTest");
    return due;
  }

  /** What is wrong from now on, is wrong in a test of this sentence. */
  static void of(String said) {
    sentence = said;
  }

  static void is(String what, long want, long got) {
    due.is(sentence + " " + what, want, got);
  }

  static void isNot(String what, long unwanted, long got) {
    due.is(sentence + " " + what + " isn't " + unwanted, 1, got != unwanted ? 1 : 0);
  }

  /** A call takes least to most, and answers BEYOND for all other numbers. */
  static void within(String what, int least, int most, IntToLongFunction call) {
    isNot(what + " of " + least, Due.BEYOND, call.applyAsLong(least));
    isNot(what + " of " + most, Due.BEYOND, call.applyAsLong(most));
    beyond(what, call, least - 1, most + 1, MIN, MIN + 1, MAX - 1, MAX);
  }

  static void beyond(String what, IntToLongFunction call, int... wrong) {
    for (int v : wrong) {
      is(what + " of " + v, Due.BEYOND, call.applyAsLong(v));
    }
  }

  /** A board with LINES of these KINDS and m, on a COLUMN each, from COLUMN 0 on, all of person 0. */
  static BoardKeep lines(int... kms) {
    BoardKeep keep = new BoardKeep();
    for (int i = 0; i < kms.length; i++) {
      keep.write(kms[i], 100 * i + 1, 0, 0);
    }
    return keep;
  }

  /** A board with one LINE of such an AGE. */
  static BoardKeep aged(int km, int age) {
    BoardKeep keep = lines(km);
    toDay(keep, age);
    return keep;
  }

  static BoardKeep full() {
    return lines(0, 0, 0, 0, 0, 0, 0, 0, 0, 0);
  }

  static void toDay(BoardKeep keep, int day) {
    for (int now = keep.count(1); now >= 0 && now < day;) {
      int then = keep.days(Math.min(90, day - now));
      now = then > now ? then : day;
    }
  }

  static int ink(BoardKeep keep, int pen) {
    int was = keep.pen(pen, 0);
    keep.pen(pen, was);
    return was;
  }

  static void setSheet(BoardKeep keep, int sheet, int bits, int... numbers) {
    keep.sheet(sheet, bits, numbers.length);
    for (int i = 0; i < numbers.length; i++) {
      keep.put(sheet, i, numbers[i]);
    }
  }
}
