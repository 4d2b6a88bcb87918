import java.util.function.Consumer;
import java.util.function.ToLongFunction;

/** ERRORS, as the document tells them ahead of the numbered terms. */
final class ErrorEdges {
  private static final int BEYOND = 1;
  private static final int NONE = 2;
  private static final int STATE = 3;
  private static final int FULL = 4;
  private static final int KIND = 5;
  private static final int PARTED = 6;

  private ErrorEdges() {
  }

  @Says(at = "T0", text = "LOW is -1000000000; LOW - 1 BEYOND, LOW - 2 NONE, LOW - 3 STATE, LOW - 4 FULL, LOW - 5 KIND, LOW - 6 PARTED")
  static void numbers() {
    BoardKeep keep = Edge.lines(0);
    Edge.is("of(6)", -1000000001, keep.of(6));
    Edge.is("restore()", -1000000002, keep.restore());
    Edge.is("wipe(0)", -1000000003, keep.wipe(0));
    for (int i = 0; i < 24; i++) {
      keep.tell(0);
    }
    Edge.is("tell(0)", -1000000004, keep.tell(0));
    Edge.is("as(0, 1)", -1000000005, keep.as(0, 1));
    Edge.is("voice(0, 3, 1)", -1000000006, keep.voice(0, 3, 1));
  }

  @Says(at = "T0", text = "ERRORS are answers below -1000000000")
  static void belowLow() {
    BoardKeep keep = new BoardKeep();
    Edge.is("-1000000001 of seed() is none", 1, keep.seed(-1000000001));
    Edge.is("nor answered", -1000000001, keep.seed(-1000000000));
    Edge.is("nor -1000000000", -1000000000, keep.count(7));
    Edge.is("none told", 0, keep.told(1));
  }

  @Says(at = "T0", text = "(in longs, too)")
  static void inLongs() {
    Edge.is("odds(-1, 0)", -1000000001L, new BoardKeep().odds(-1, 0));
  }

  @Says(at = "T0", text = "Each act tells its ERRORS in the order in which they are asked")
  static void order() {
    BoardKeep keep = Edge.full();
    Edge.is("write BEYOND, FULL, STATE", Due.BEYOND, keep.write(70, 1, 0, 0));
    keep.pen(4, 0);
    Edge.is("write FULL, STATE of TAKEN", Due.FULL, keep.write(0, 1, 0, 0));
    Edge.is("write FULL, STATE of INK", Due.FULL, keep.write(0, 1001, 0, 4));
    Edge.is("as BEYOND of the line, KIND", Due.BEYOND, keep.as(10, 1));
    Edge.is("days BEYOND, STATE", Due.BEYOND, keep.days(Edge.MAX));
    Edge.is("loose BEYOND, STATE", Due.BEYOND, keep.loose(Edge.MAX));
    keep.feed(0, 8);
    Edge.is("feed BEYOND, FULL", Due.BEYOND, keep.feed(0, 61));
    Edge.is("room BEYOND, NONE", Due.BEYOND, keep.room(12, 4));
    keep.become(0, 41);
    Edge.is("when BEYOND, NONE", Due.BEYOND, keep.when(12, 2));
    Edge.is("voice BEYOND, PARTED", Due.BEYOND, keep.voice(10, 3, 0));
    BoardKeep taken = new BoardKeep();
    taken.write(0, 12, 0, 0);
    Edge.is("free BEYOND, NONE", Due.BEYOND, taken.free(4));
  }

  @Says(at = "T0", text = "Quotients are cut toward 0.")
  static void quotients() {
    BoardKeep keep = Edge.lines(0, 33, 20);
    Edge.is("x by -1", 7, keep.voice(2, 3, -14));
    keep.become(2, 24);
    Edge.is("-7 by 2", -3, keep.voice(2, 3, -7));
    Edge.is("7 by 2", 3, keep.voice(2, 3, 7));
    keep.become(2, 20);
    Edge.is("7 by -2", -3, keep.voice(2, 3, 7));
    Edge.is("-7 by -2", 3, keep.voice(2, 3, -7));
    // -3 by 2 is -1; squeaks(-1) is 0; 2 * 0 - 3
    Edge.is("-3 by 2 in a GREEN one", -3, keep.voice(1, 2, -3));
    Due.text(keep, 0, "b/2+9");
    Edge.is("-7 by 2 in a TEXT", 6, keep.law(0, -7, 0, 0));
  }

  /** Three LINES, one of them GONE; TEXTS, THE TAPE, numbers that wait, an IMAGE, SHEETS, THE TRACE: some of all. */
  private static void some(BoardKeep keep) {
    keep.write(5, 2, 1, 0);
    keep.write(24, 401, 2, 1);
    keep.write(31, 701, 3, 2);
    keep.days(4);
    keep.wipe(1);
    keep.photo(2, 1);
    keep.spirit(1);
    Due.text(keep, 0, "b+m*p");
    Due.text(keep, 1, "f-d");
    keep.image();
    keep.pen(3, 3);
    keep.seed(-5);
    Due.feed(keep, "12");
    keep.tell(38);
    keep.tell(9);
    Edge.setSheet(keep, 0, 8, 3, 1, 2);
    Edge.setSheet(keep, 1, 16, 4, 0);
    Edge.setSheet(keep, 3, 32, 1, 1, 1, 0, 0, 1, 1, 1, 0, 0, 0, 0, 0);
    keep.voice(0, 2, 8);
    keep.wipe(1);
    keep.of(6);
  }

  private static void refused(String what, int k, ToLongFunction<BoardKeep> call) {
    new Twins(ErrorEdges::some).refuse(what, k, call);
  }

  private static void refused(String what, int k, Consumer<BoardKeep> dealing, ToLongFunction<BoardKeep> call) {
    new Twins(dealing).refuse(what, k, call);
  }

  private static Consumer<BoardKeep> someAnd(Consumer<BoardKeep> more) {
    return keep -> {
      some(keep);
      more.accept(keep);
    };
  }

  private static void tenLines(BoardKeep keep) {
    for (int i = 0; i < 10; i++) {
      keep.write(0, 100 * i + 1, 0, 0);
    }
  }

  private static void fullTape(BoardKeep keep) {
    for (int i = 0; i < 7; i++) {
      keep.feed(0x2B312B312B312B31L, 8);
    }
  }

  private static void fullWaiting(BoardKeep keep) {
    for (int i = 0; i < 24; i++) {
      keep.tell(40);
    }
  }

  private static void late(BoardKeep keep) {
    Edge.toDay(keep, 9998);
    keep.write(20, 3, 0, 2);
    keep.pen(1, 9);
  }

  @Says(at = "T0", text = "one that answers an ERROR changes nothing but what told() tells, or where told.")
  static void refusedLines() {
    refused("write km", BEYOND, keep -> keep.write(70, 901, 0, 0));
    refused("write COLUMNS", BEYOND, keep -> keep.write(0, 1102, 0, 0));
    refused("write who", BEYOND, keep -> keep.write(0, 901, 6, 0));
    refused("write pen", BEYOND, keep -> keep.write(0, 901, 0, 5));
    refused("write the eleventh", FULL, ErrorEdges::tenLines, keep -> keep.write(0, 1001, 0, 1));
    refused("write on TAKEN", STATE, keep -> keep.write(0, 602, 0, 0));
    refused("write without INK", STATE, keep -> keep.write(0, 804, 0, 3));
    refused("lineIs line", BEYOND, keep -> keep.lineIs(3, 0));
    refused("lineIs what", BEYOND, keep -> keep.lineIs(0, 10));
    refused("become line", BEYOND, keep -> keep.become(3, 0));
    refused("become km", BEYOND, keep -> keep.become(0, 70));
    refused("as kind", BEYOND, keep -> keep.as(0, 7));
    refused("as another", KIND, keep -> keep.as(0, 1));
    refused("photo line", BEYOND, keep -> keep.photo(-1, 1));
    refused("photo is", BEYOND, keep -> keep.photo(0, 2));
    refused("wipe line", BEYOND, keep -> keep.wipe(3));
    refused("wipe too early", STATE, keep -> keep.wipe(0));
    refused("wipe twice", STATE, keep -> keep.wipe(1));
    refused("pen pen", BEYOND, keep -> keep.pen(5, 1));
    refused("pen v", BEYOND, keep -> keep.pen(0, 100));
    refused("spirit is", BEYOND, keep -> keep.spirit(2));
  }

  @Says(at = "T0", text = "one that answers an ERROR changes nothing but what told() tells, or where told.")
  static void refusedTextsAndDays() {
    refused("feed n", BEYOND, keep -> keep.feed(0x31, 9));
    refused("feed too much", FULL, ErrorEdges::fullTape, keep -> keep.feed(0x3131313131L, 5));
    refused("text use", BEYOND, keep -> keep.text(2));
    refused("untell use", BEYOND, keep -> keep.untell(-1));
    refused("law use", BEYOND, keep -> keep.law(2, 1, 1, 1));
    refused("days n", BEYOND, keep -> keep.days(0));
    refused("days above", STATE, ErrorEdges::late, keep -> keep.days(2));
    refused("loose n", BEYOND, keep -> keep.loose(31));
    refused("loose above", STATE, ErrorEdges::late, keep -> keep.loose(2));
  }

  @Says(at = "T0", text = "one that answers an ERROR changes nothing but what told() tells, or where told.")
  static void refusedThoughts() {
    Consumer<BoardKeep> stuck = keep -> keep.write(45, 12, 0, 0);
    refused("free what", BEYOND, keep -> keep.free(4));
    refused("free none", NONE, stuck, keep -> keep.free(3));
    refused("of who", BEYOND, keep -> keep.of(6));
    refused("room n", BEYOND, keep -> keep.room(13, 0));
    refused("room none", NONE, stuck, keep -> keep.room(1, 3));
    refused("when what", BEYOND, keep -> keep.when(1, 2));
    refused("when never", NONE, stuck, keep -> keep.when(1, 0));
    refused("clears n", BEYOND, keep -> keep.clears(91));
    refused("parts sheet", BEYOND, keep -> keep.parts(4));
    refused("parts missing", NONE, keep -> keep.parts(2));
    refused("parts of thirteen", NONE, keep -> keep.parts(3));
    refused("parts of a 0", STATE, keep -> keep.parts(1));
    refused("odds set", BEYOND, keep -> keep.odds(8, 0));
    refused("odds part", BEYOND, keep -> keep.odds(1, 2));
    refused("fits sheet", BEYOND, keep -> keep.fits(-1));
    refused("fits missing", NONE, keep -> keep.fits(2));
    refused("fits never", NONE, keep -> keep.fits(0));
  }

  @Says(at = "T0", text = "one that answers an ERROR changes nothing but what told() tells, or where told.")
  static void refusedRest() {
    refused("voice line", BEYOND, keep -> keep.voice(3, 0, 1));
    refused("voice voice", BEYOND, keep -> keep.voice(0, 4, 1));
    refused("voice PARTED", PARTED, someAnd(keep -> keep.become(0, 0)), keep -> keep.voice(0, 3, 1));
    refused("body", NONE, keep -> keep.body(3));
    refused("sheet bits", BEYOND, keep -> keep.sheet(0, 7, 2));
    refused("sheet n below", STATE, keep -> keep.sheet(0, 16, -1));
    refused("sheet n above", BEYOND, keep -> keep.sheet(0, 16, 25));
    refused("put missing", NONE, keep -> keep.put(2, 0, 1));
    refused("put number", BEYOND, keep -> keep.put(0, 3, 1));
    refused("move missing", NONE, keep -> keep.move(0, 0, 2, 0, 1));
    refused("move unlike", KIND, keep -> keep.move(0, 0, 1, 0, 1));
    refused("move from behind", BEYOND, keep -> keep.move(0, 1, 0, 0, 3));
    refused("move to behind", BEYOND, keep -> keep.move(0, 0, 0, 1, 3));
    refused("dates missing", NONE, keep -> keep.dates(2));
    refused("judge missing", NONE, keep -> keep.judge(2));
    refused("restore", NONE, ErrorEdges::tenLines, keep -> keep.restore());
    refused("tell", FULL, ErrorEdges::fullWaiting, keep -> keep.tell(40));
    refused("count", BEYOND, keep -> keep.count(8));
    refused("told", BEYOND, keep -> keep.told(0));
  }

  private static void thought(String what, ToLongFunction<BoardKeep> call) {
    new Twins(someAnd(keep -> {
      keep.days(4);
      keep.sheet(2, 16, 12);
    })).think(what, call);
  }

  @Says(at = "T3", text = "(All this is only thought; DAY beyond 9999, too.)")
  static void onlyThought() {
    thought("free", keep -> keep.free(3));
    thought("of", keep -> keep.of(1));
    thought("room", keep -> keep.room(10, 3));
    thought("when", keep -> keep.when(12, 1));
    thought("clears", keep -> keep.clears(90));
    thought("parts", keep -> keep.parts(0));
    thought("odds", keep -> keep.odds(7, 1));
    thought("fits", keep -> keep.fits(2));
    thought("law", keep -> keep.law(0, 1, 1, 1));
    thought("judge", keep -> keep.judge(0));
  }
}
