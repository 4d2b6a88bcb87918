import java.util.ArrayList;
import java.util.List;
import java.util.function.Consumer;
import java.util.function.ToLongFunction;

/** Two boards that were dealt with alike, but for one call more on one of them: how far all else is alike then. */
final class Twins {
  private final BoardKeep one = new BoardKeep();
  private final BoardKeep other = new BoardKeep();

  Twins(Consumer<BoardKeep> dealing) {
    dealing.accept(one);
    dealing.accept(other);
  }

  /** The call answers the ERROR LOW - k, which told() tells, and changes nothing else. */
  void refuse(String what, int k, ToLongFunction<BoardKeep> call) {
    Edge.is(what, Due.LOW - k, call.applyAsLong(one));
    alike(what, k);
  }

  /** The call is only thought: it changes nothing. */
  void think(String what, ToLongFunction<BoardKeep> call) {
    Edge.is(what + " is no ERROR", 1, call.applyAsLong(one) >= Due.LOW ? 1 : 0);
    alike(what, 0);
  }

  private void alike(String what, int k) {
    for (int asked = 1; asked <= 6; asked++) {
      Edge.is(what + ": told(" + asked + ")", other.told(asked) + (asked == k ? 1 : 0), one.told(asked));
    }
    // A voice() that is PARTED tells its own TRACE.
    Edge.is(what + ": all else", 1, seen(one, k != 6).equals(seen(other, k != 6)) ? 1 : 0);
  }

  /** All that can be seen of a board; what is left of it then is of no more use. */
  private static List<Long> seen(BoardKeep keep, boolean trace) {
    List<Long> seen = new ArrayList<>();
    for (int i = 0; trace && i < keep.count(6); i++) {
      seen.add((long) keep.body(i));
    }
    seen.add(trace ? (long) keep.count(6) : 0);
    state(keep, seen);
    sheets(keep, seen);
    seen.add((long) keep.restore());
    state(keep, seen);
    seen.add((long) keep.image());
    return seen;
  }

  private static void state(BoardKeep keep, List<Long> seen) {
    for (int what = 0; what < 8; what++) {
      seen.add(what == 6 ? 0 : (long) keep.count(what));
    }
    for (int line = 0; line < keep.count(0); line++) {
      for (int what = 0; what < 10; what++) {
        seen.add((long) keep.lineIs(line, what));
      }
    }
    seen.add((long) keep.free(0));
    for (int pen = 0; pen < 5; pen++) {
      seen.add((long) Edge.ink(keep, pen));
    }
    for (int use = 0; use < 2; use++) {
      seen.add((long) keep.law(use, 5, 3, 1));
      seen.add((long) keep.law(use, 60, 2, 0));
    }
    seen.add((long) keep.check());
    seen.add((long) keep.text(0));
    seen.add((long) keep.law(0, 5, 3, 1));
    seen.add((long) keep.untell(0));
    seen.add((long) keep.untell(1));
  }

  /** Each number of the SHEETS, as the DATE that a LINE gets by it, and of how many bits they are. */
  private static void sheets(BoardKeep keep, List<Long> seen) {
    Edge.toDay(keep, 300);
    keep.pen(4, 99);
    for (int column = 0; keep.count(0) == 0 && column < 12; column++) {
      keep.write(0, 100 * column + 1, 0, 4);
    }
    for (int sheet = 0; sheet < 4; sheet++) {
      for (int i = 0; i <= 24 && keep.move(sheet, i, sheet, 0, 1) == 1; i++) {
        date(keep, sheet, seen);
      }
      seen.add((long) keep.put(sheet, 0, 0x10101));
      date(keep, sheet, seen);
    }
  }

  private static void date(BoardKeep keep, int sheet, List<Long> seen) {
    seen.add((long) keep.dates(sheet));
    seen.add((long) keep.lineIs(0, 4));
  }
}
