/** For each promise of the document: ordinary calls, the edges it names, and wrong calls. */
public final class PromiseTest {
  private static final int MIN = Integer.MIN_VALUE;
  private static final int MAX = Integer.MAX_VALUE;
  private static final Due DUE = new Due("PromiseTest");

  public static void main(String[] args) {
    DUE.watch();
    promise1New();
    promise2Write();
    promise3LineIs();
    promise3MayGo();
    promise3Back();
    promise3Loss();
    promise4Become();
    promise5As();
    promise6Photo();
    promise7Wipe();
    promise8Pen();
    promise9Spirit();
    promise10Feed();
    promise11Text();
    promise11Faults();
    promise11Open();
    promise12Untell();
    promise13Law();
    promise13Worth();
    promise14Days();
    promise15Loose();
    promise15Draws();
    promise16Seed();
    promise17Free();
    promise18Of();
    promise19Room();
    promise20When();
    promise21Clears();
    promise22Parts();
    promise23Odds();
    promise24Fits();
    promise25Voice();
    promise25Parted();
    promise26Body();
    promise27Sheet();
    promise28Put();
    promise29Move();
    promise30Dates();
    promise31Judge();
    promise32Image();
    promise33Restore();
    promise34Tell();
    promise35Check();
    promise36Count();
    promise37Told();
    DUE.end();
  }

  private static void is(String what, long want, long got) {
    DUE.is(what, want, got);
  }

  private static void promise1New() {
    BoardKeep keep = new BoardKeep();
    int[] first = {0, 0, 0, 0, 0, 0, 0, 1};
    for (int what = 0; what < 8; what++) {
      is("1 count(" + what + ")", first[what], keep.count(what));
    }
    for (int k = 1; k <= 6; k++) {
      is("1 told(" + k + ")", 0, keep.told(k));
    }
    is("1 lineIs(0, 0)", Due.BEYOND, keep.lineIs(0, 0));
    is("1 untell(0)", 0, keep.untell(0));
    is("1 untell(1)", 0, keep.untell(1));
    is("1 restore()", Due.NONE, keep.restore());
    is("1 body(0)", Due.NONE, keep.body(0));
    is("1 put(3, 0, 0)", Due.NONE, keep.put(3, 0, 0));
    for (int pen = 0; pen < 5; pen++) {
      is("1 pen(" + pen + ")", 40, keep.pen(pen, 40));
    }
    is("1 free(1)", 12, keep.free(1));
  }

  private static void promise2Write() {
    BoardKeep keep = new BoardKeep();
    is("2 first", 0, keep.write(69, 1, 5, 4));
    is("2 kind", 6, keep.lineIs(0, 0));
    is("2 m", 9, keep.lineIs(0, 1));
    is("2 columns", 1, keep.lineIs(0, 2));
    is("2 whose", 5, keep.lineIs(0, 3));
    is("2 ink", 39, keep.pen(4, 39));
    is("2 second", 1, keep.write(0, 1001, 0, 0));
    is("2 columns of it", 1 << 10, keep.lineIs(1, 2));
    int[][] beyond = {
      {70, 201, 0, 0}, {-1, 201, 0, 0}, {MIN, 201, 0, 0}, {MAX, 201, 0, 0},
      {0, -1, 0, 0}, {0, -99, 0, 0}, {0, 0, 0, 0}, {0, 200, 0, 0}, {0, 213, 0, 0}, {0, 13, 0, 0}, {0, 211, 0, 0},
      {0, 1102, 0, 0}, {0, 1200, 0, 0}, {0, 1201, 0, 0}, {0, MIN, 0, 0}, {0, MAX, 0, 0},
      {0, 201, 6, 0}, {0, 201, -1, 0}, {0, 201, 0, 5}, {0, 201, 0, -1}};
    for (int[] wrong : beyond) {
      is("2 write" + java.util.Arrays.toString(wrong), Due.BEYOND, keep.write(wrong[0], wrong[1], wrong[2], wrong[3]));
    }
    is("2 taken", Due.STATE, keep.write(0, 902, 0, 0));
    is("2 ink stays", 39, keep.pen(0, 2));
    is("2 little ink", Due.STATE, keep.write(0, 203, 0, 0));
    is("2 enough ink", 2, keep.write(0, 202, 0, 0));
    is("2 none left", 0, keep.pen(0, 9));
    BoardKeep full = new BoardKeep();
    for (int i = 0; i < 10; i++) {
      is("2 line " + i, i, full.write(20, 100 * i + 1, 0, 1));
    }
    is("2 full", Due.FULL, full.write(0, 1001, 0, 1));
    is("2 full ahead of taken", Due.FULL, full.write(0, 1, 0, 1));
    is("2 beyond ahead of full", Due.BEYOND, full.write(0, 1, 0, 5));
    full.days(1);
    full.wipe(0);
    is("2 what is gone counts", Due.FULL, full.write(0, 1, 0, 1));
    BoardKeep all = new BoardKeep();
    is("2 all columns", 0, all.write(0, 12, 0, 0));
    is("2 as a set", 4095, all.lineIs(0, 2));
    all.days(7);
    all.wipe(0);
    is("2 where it is gone", 1, all.write(0, 12, 0, 1));
    is("2 dated now", 7, all.lineIs(1, 4));
  }

  private static void promise3LineIs() {
    BoardKeep keep = new BoardKeep();
    keep.days(3);
    keep.write(37, 402, 3, 2);
    keep.photo(0, 1);
    int[] first = {3, 7, 3 << 4, 3, 3, 1, 0, 0, 77, 38};
    for (int what = 0; what < 10; what++) {
      is("3 lineIs(0, " + what + ")", first[what], keep.lineIs(0, what));
    }
    is("3 what 10", Due.BEYOND, keep.lineIs(0, 10));
    is("3 what -1", Due.BEYOND, keep.lineIs(0, -1));
    is("3 line 1", Due.BEYOND, keep.lineIs(1, 0));
    is("3 line -1", Due.BEYOND, keep.lineIs(-1, 0));
    is("3 line MIN", Due.BEYOND, keep.lineIs(MIN, 0));
    keep.days(7);
    is("3 may go", 1, keep.lineIs(0, 7));
    keep.wipe(0);
    is("3 gone", 1, keep.lineIs(0, 6));
    is("3 gone never may", 0, keep.lineIs(0, 7));
    is("3 gone has BACK", 42, keep.lineIs(0, 8));
    is("3 gone has LOSS", 21, keep.lineIs(0, 9));
    is("3 gone has COLUMNS", 3 << 4, keep.lineIs(0, 2));
  }

  /** The first AGE at which one of a kind may go, or -1: never by 70. */
  private static int firstMayGo(int km, int spirit) {
    BoardKeep keep = new BoardKeep();
    keep.days(2);
    keep.write(km, 1, 0, 0);
    keep.spirit(spirit);
    for (int age = 0; age <= 70; age++) {
      if (keep.lineIs(0, 7) == 1) {
        return age;
      }
      keep.days(1);
    }
    return -1;
  }

  private static void promise3MayGo() {
    int[][] ages = {
      {0, 0, 7}, {9, 0, 7}, {10, 0, 7}, {11, 0, 7}, {12, 0, 14}, {19, 0, 63}, {20, 0, 1}, {29, 0, 1}, {30, 0, 7}, {39, 0, 7},
      {40, 0, 7}, {41, 0, -1}, {49, 1, -1}, {50, 0, 1}, {51, 0, 1}, {52, 0, 2}, {59, 0, 9}, {60, 0, -1}, {60, 1, 7}, {69, 1, 7}};
    for (int[] row : ages) {
      is("3 first AGE of km " + row[0] + " with SPIRIT " + row[1], row[2], firstMayGo(row[0], row[1]));
    }
  }

  private static void promise3Back() {
    // km, AGE, PHOTO, BACK
    int[][] rows = {
      {0, 0, 0, 50}, {9, 0, 0, 59}, {3, 4, 0, 33}, {3, 10, 0, 3}, {3, 11, 0, 3}, {0, 50, 0, 0}, {9, 0, 1, 59},
      {10, 0, 0, 70}, {19, 9, 0, 34}, {19, 60, 0, 29}, {20, 0, 0, 25}, {21, 0, 0, 25}, {22, 0, 0, 26}, {29, 20, 0, 4},
      {30, 0, 0, 50}, {30, 0, 1, 70}, {35, 12, 1, 25}, {35, 12, 0, 5}, {40, 0, 0, 90}, {49, 0, 0, 99}, {49, 30, 0, 49},
      {50, 0, 0, 25}, {59, 0, 0, 20}, {59, 10, 0, 0}, {51, 10, 0, 0}, {54, 5, 0, 10}, {60, 0, 0, 55}, {69, 2, 1, 54}};
    for (int[] row : rows) {
      BoardKeep keep = new BoardKeep();
      keep.write(row[0], 1, 0, 0);
      keep.photo(0, row[2]);
      if (row[1] > 0) {
        keep.days(row[1]);
      }
      is("3 BACK of km " + row[0] + " at AGE " + row[1] + " PHOTO " + row[2], row[3], keep.lineIs(0, 8));
    }
  }

  private static void promise3Loss() {
    BoardKeep keep = new BoardKeep();
    keep.write(5, 1, 0, 0);
    is("3 LOSS is BACK", 55, keep.lineIs(0, 9));
    keep.photo(0, 1);
    is("3 LOSS is half, cut", 27, keep.lineIs(0, 9));
    is("3 a TEXT", 1, Due.text(keep, 0, "b*100+m*10+p"));
    is("3 LOSS held above", 999, keep.lineIs(0, 9));
    Due.text(keep, 0, "b+m*10+p");
    is("3 LOSS by names", 106, keep.lineIs(0, 9));
    Due.text(keep, 0, "0-b");
    is("3 LOSS held below", 0, keep.lineIs(0, 9));
  }

  private static void promise4Become() {
    BoardKeep keep = new BoardKeep();
    keep.write(34, 102, 2, 0);
    is("4 was", 3, keep.become(0, 58));
    is("4 kind", 5, keep.lineIs(0, 0));
    is("4 m", 8, keep.lineIs(0, 1));
    is("4 columns stay", 6, keep.lineIs(0, 2));
    is("4 whose stays", 2, keep.lineIs(0, 3));
    is("4 was again", 5, keep.become(0, 69));
    is("4 to 0", 6, keep.become(0, 0));
    is("4 km 70", Due.BEYOND, keep.become(0, 70));
    is("4 km -1", Due.BEYOND, keep.become(0, -1));
    is("4 line 1", Due.BEYOND, keep.become(1, 0));
    is("4 line -1", Due.BEYOND, keep.become(-1, 0));
    is("4 kind stays", 0, keep.lineIs(0, 0));
  }

  private static void promise5As() {
    // by KIND of the LINE: the KINDS that it is one of, as a set
    int[] ofKinds = {1, 3, 5, 9, 19, 37, 65};
    for (int kind = 0; kind < 7; kind++) {
      BoardKeep keep = new BoardKeep();
      keep.write(10 * kind + 6, 1, 0, 0);
      for (int asked = 0; asked < 7; asked++) {
        boolean under = (ofKinds[kind] >> asked & 1) != 0;
        is("5 a " + kind + " as " + asked, under ? 6 : Due.KIND, keep.as(0, asked));
      }
      is("5 as 7", Due.BEYOND, keep.as(0, 7));
      is("5 as -1", Due.BEYOND, keep.as(0, -1));
      is("5 line 1", Due.BEYOND, keep.as(1, 0));
      is("5 line -1", Due.BEYOND, keep.as(-1, 0));
    }
  }

  private static void promise6Photo() {
    BoardKeep keep = new BoardKeep();
    keep.write(0, 1, 0, 0);
    is("6 was without", 0, keep.photo(0, 1));
    is("6 was with", 1, keep.photo(0, 1));
    is("6 now with", 1, keep.lineIs(0, 5));
    is("6 is 2", Due.BEYOND, keep.photo(0, 2));
    is("6 is -1", Due.BEYOND, keep.photo(0, -1));
    is("6 line 1", Due.BEYOND, keep.photo(1, 0));
    is("6 line -1", Due.BEYOND, keep.photo(-1, 0));
    is("6 was with, to without", 1, keep.photo(0, 0));
    is("6 without", 0, keep.lineIs(0, 5));
  }

  private static void promise7Wipe() {
    BoardKeep keep = new BoardKeep();
    keep.write(4, 3, 0, 0);
    keep.write(20, 601, 0, 0);
    is("7 not yet", Due.STATE, keep.wipe(0));
    is("7 line 2", Due.BEYOND, keep.wipe(2));
    is("7 line -1", Due.BEYOND, keep.wipe(-1));
    keep.days(7);
    is("7 LOSS", 19, keep.wipe(0));
    is("7 LOST", 19, keep.count(3));
    is("7 gone", Due.STATE, keep.wipe(0));
    is("7 FREE", 64, keep.free(0));
    is("7 LOSS of another", 7, keep.wipe(1));
    is("7 LOST of both", 26, keep.count(3));
    BoardKeep much = new BoardKeep();
    Due.text(much, 0, "999");
    much.write(20, 1, 0, 0);
    for (int i = 0; i < 9; i++) {
      much.days(1);
      much.wipe(i);
      much.write(20, 1, 0, 0);
    }
    is("7 LOST of nine", 9 * 999, much.count(3));
  }

  private static void promise8Pen() {
    BoardKeep keep = new BoardKeep();
    is("8 was", 40, keep.pen(3, 99));
    is("8 was 99", 99, keep.pen(3, 0));
    is("8 was 0", 0, keep.pen(3, 5));
    is("8 v 100", Due.BEYOND, keep.pen(3, 100));
    is("8 v -1", Due.BEYOND, keep.pen(3, -1));
    is("8 pen 5", Due.BEYOND, keep.pen(5, 5));
    is("8 pen -1", Due.BEYOND, keep.pen(-1, 5));
    is("8 stays", 5, keep.pen(3, 5));
  }

  private static void promise9Spirit() {
    BoardKeep keep = new BoardKeep();
    is("9 was 0", 0, keep.spirit(1));
    is("9 is 1", 1, keep.count(2));
    is("9 was 1", 1, keep.spirit(0));
    is("9 is 2", Due.BEYOND, keep.spirit(2));
    is("9 is -1", Due.BEYOND, keep.spirit(-1));
    is("9 stays", 0, keep.count(2));
  }

  private static void promise10Feed() {
    BoardKeep keep = new BoardKeep();
    is("10 n 0", Due.BEYOND, keep.feed(0L, 0));
    is("10 n 9", Due.BEYOND, keep.feed(0L, 9));
    is("10 n -1", Due.BEYOND, keep.feed(0L, -1));
    is("10 lowest first", 2, keep.feed(0x7777776B31L, 2));
    is("10 a name that is none", -11, keep.text(0));
    is("10 empty again", 0, keep.count(4));
    is("10 eight", 8, keep.feed(0x3837363534333231L, 8));
    is("10 one more", 9, keep.feed('1', 1));
    keep.text(0);
    for (int i = 1; i <= 7; i++) {
      is("10 times " + i, 8 * i, keep.feed(-1L, 8));
    }
    is("10 full", Due.FULL, keep.feed(0L, 5));
    is("10 beyond ahead of full", Due.BEYOND, keep.feed(0L, 9));
    is("10 to the last", 60, keep.feed(0L, 4));
    is("10 none more", Due.FULL, keep.feed(0L, 1));
    is("10 how many", 60, keep.count(4));
  }

  private static void promise11Text() {
    BoardKeep keep = new BoardKeep();
    is("11 text", 1, Due.text(keep, 0, "b"));
    is("11 empty then", 0, keep.count(4));
    Due.feed(keep, "7");
    is("11 use 2", Due.BEYOND, keep.text(2));
    is("11 use -1", Due.BEYOND, keep.text(-1));
    is("11 THE TAPE stays", 1, keep.count(4));
    is("11 in place of one ahead", 1, keep.text(0));
    is("11 the new one", 7, keep.law(0, 3, 0, 0));
    is("11 fault", -11, Due.text(keep, 0, "8x"));
    is("11 empty, too", 0, keep.count(4));
    is("11 the one ahead stays", 7, keep.law(0, 3, 0, 0));
    is("11 no error", 0, keep.told(2));
    is("11 errors", 2, keep.told(1));
    is("11 names of GAIN", 1, Due.text(keep, 1, "f+d+w"));
    is("11 names of LOSS", 1, Due.text(keep, 0, "b+m+p"));
    String sixty = "1+1+1+1+1+1+1+1+1+1+1+1+1+1+1+1+1+1+1+1+1+1+1+1+1+1+1+1+1+12";
    is("11 sixty", 1, Due.text(keep, 0, sixty));
    is("11 sixty's worth", 41, keep.law(0, 0, 0, 0));
    is("11 sixty end too early", -70, Due.text(keep, 0, sixty.substring(0, 58) + "1+"));
  }

  private static void promise11Faults() {
    // each text, and its FAULT for a LOSS; -1: none
    String[] texts = {
      "", "b", "bb", "b ", " b", "1234", "12345", "0000", "1b", "b1", "f", "b+d", "B", "-1", "+b", "!", "!!b", "!b!b", "()",
      "(", "(b", "(b)", "(b))", "b)", "b+", "b+*b", "b|", "b|m&p", "b||m", "b&&m", "b<m", "b<m<p", "b<m=p", "b=m", "b==m", "b>m>p",
      "b<m&m<p", "b<m|m<p", "(b<m)<p", "b<(m<p)", "b<(m<p<b)", "b<m+p*2", "b<m+p<2", "!b<m", "b!m", "b!=m", "b*m/p%2", "b*!m", "(b|m)*(p&m)",
      "b,m", "b<", "b<m&", "1+(2", "((b)", "b/0", "3(4)", "(3)4", "(b)b"};
    int[] faults = {
      0, -1, 1, 1, 0, -1, 4, -1, 1, 1, 0, 2, 0, 0, 0, 1, -1, 2, 1,
      1, 2, -1, 3, 1, 2, 2, 2, -1, 2, 2, -1, 3, 3, -1, 2, 3,
      -1, -1, -1, -1, 6, -1, 5, -1, 1, 1, -1, -1, -1,
      1, 2, 4, 4, 4, -1, 1, 3, 3};
    BoardKeep keep = new BoardKeep();
    for (int i = 0; i < texts.length; i++) {
      is("11 " + texts[i], faults[i] < 0 ? 1 : -10 - faults[i], Due.text(keep, 0, texts[i]));
    }
    keep.feed(0x1FFL, 1);
    is("11 byte 255", -10, keep.text(0));
    keep.feed(0x0031L, 2);
    is("11 byte 0", -11, keep.text(0));
  }

  private static void promise11Open() {
    String[] texts = {
      "!!!!!b", "!!!!!!b", "(((((b)))))", "((((((b))))))", "!(!(!b))", "!(!(!(b)))", "!!!!!b+!!!!!b", "(((((b)))))*(!!!!b)", "!!!!!(b)",
      "((((!b))))", "(((((!b)))))", "(!!!!b+!!!!m)", "(!!!!b+!!!!!m)", "!!!!(b)+!!!!!m"};
    int[] faults = {-1, 5, -1, 5, -1, 5, -1, -1, 5, -1, 5, -1, 11, -1};
    BoardKeep keep = new BoardKeep();
    for (int i = 0; i < texts.length; i++) {
      is("11 " + texts[i], faults[i] < 0 ? 1 : -10 - faults[i], Due.text(keep, 0, texts[i]));
    }
  }

  private static void promise12Untell() {
    BoardKeep keep = new BoardKeep();
    Due.text(keep, 1, "3");
    is("12 the other", 0, keep.untell(0));
    is("12 was", 1, keep.untell(1));
    is("12 none more", 0, keep.untell(1));
    is("12 without", 20, keep.law(1, 2, 0, 0));
    is("12 use 2", Due.BEYOND, keep.untell(2));
    is("12 use -1", Due.BEYOND, keep.untell(-1));
  }

  private static void promise13Law() {
    BoardKeep keep = new BoardKeep();
    is("13 b", 50, keep.law(0, 50, 3, 0));
    is("13 b by 2, cut", 25, keep.law(0, 51, 3, 1));
    is("13 held below", 0, keep.law(0, -50, 3, 0));
    is("13 held above", 999, keep.law(0, 1000, 3, 0));
    is("13 at the edge", 999, keep.law(0, 1999, 3, 1));
    is("13 gain", 70, keep.law(1, 7, 3, 1));
    is("13 gain held", 999, keep.law(1, 100, 0, 0));
    is("13 gain held below", 0, keep.law(1, -1, 0, 0));
    is("13 gain wraps", 4, keep.law(1, 429496730, 0, 0));
    is("13 use 2", Due.BEYOND, keep.law(2, 1, 0, 0));
    is("13 use -1", Due.BEYOND, keep.law(-1, 1, 0, 0));
    Due.text(keep, 0, "b*100+m*10+p");
    is("13 names in order", 123, keep.law(0, 1, 2, 3));
    Due.text(keep, 1, "f*100+d*10+w");
    is("13 gain's names in order", 321, keep.law(1, 3, 2, 1));
    is("13 each its own", 456, keep.law(0, 4, 5, 6));
  }

  private static void promise13Worth() {
    // a text of b, m, p; what they are; what it is worth
    Object[][] rows = {
      {"b-m-p", 9, 3, 2, 4}, {"b-(m-p)", 9, 3, 2, 8}, {"b/m/p", 90, 3, 2, 15}, {"b%m", 17, 5, 0, 2}, {"b/m", 17, 0, 0, 0},
      {"b%m", 17, 0, 0, 0}, {"b/m+5", -7, 2, 0, 2}, {"b%m+5", -7, 2, 0, 4}, {"b+m*p", 1, 2, 3, 7}, {"(b+m)*p", 1, 2, 3, 9},
      {"b*m/p", 7, 3, 2, 10}, {"b/m*p", 7, 3, 2, 4}, {"b<m", 1, 2, 0, 1}, {"b<m", 2, 2, 0, 0}, {"b>m", 3, 2, 0, 1}, {"b>m", 2, 2, 0, 0},
      {"b=m", 2, 2, 0, 1}, {"b=m", 2, 3, 0, 0}, {"b|m", 0, 0, 0, 0}, {"b|m", 5, 0, 0, 1}, {"b|m", 0, -5, 0, 1}, {"b&m", 5, 6, 0, 1},
      {"b&m", 5, 0, 0, 0}, {"b&m", 0, 5, 0, 0}, {"!b", 0, 0, 0, 1}, {"!b", 7, 0, 0, 0}, {"!!b", 7, 0, 0, 1}, {"!b*5", 0, 0, 0, 5},
      {"!(b*5)", 1, 0, 0, 0}, {"!b<m", 0, 2, 0, 1}, {"!(b<m)", 0, 2, 0, 0}, {"b|m&p", 1, 0, 0, 1}, {"(b|m)&p", 1, 0, 0, 0},
      {"b<m+1", 3, 3, 0, 1}, {"b<m&m<p", 1, 2, 3, 1}, {"b=m|p", 1, 2, 0, 0}, {"b*b*b*b", 65536, 0, 0, 0}, {"b*b", 46341, 0, 0, 0},
      {"b*b+m", 65537, -131000, 0, 73}, {"b/m", MIN, -1, 0, 0}, {"b%m+3", MIN, -1, 0, 3}, {"b-1>0", MIN, 0, 0, 1}, {"0012", 0, 0, 0, 12},
      {"9999-9000", 0, 0, 0, 999}, {"9999-9001", 0, 0, 0, 998}, {"1000", 0, 0, 0, 999}, {"p", 0, 0, 77, 77}, {"(b)", 8, 0, 0, 8}};
    BoardKeep keep = new BoardKeep();
    for (Object[] row : rows) {
      is("13 text " + row[0], 1, Due.text(keep, 0, (String) row[0]));
      int got = keep.law(0, (Integer) row[1], (Integer) row[2], (Integer) row[3]);
      is("13 " + row[0] + " of " + row[1] + ", " + row[2] + ", " + row[3], (Integer) row[4], got);
    }
  }

  private static void promise14Days() {
    BoardKeep keep = new BoardKeep();
    is("14 one", 1, keep.days(1));
    for (int pen = 0; pen < 5; pen++) {
      is("14 DAY 0 is divided by all, pen " + pen, 39, keep.pen(pen, 40));
    }
    is("14 to 13", 13, keep.days(12));
    // of DAYS 1 .. 12: divided by 2, 3, 4, 5, 6
    int[] less = {6, 4, 3, 2, 2};
    for (int pen = 0; pen < 5; pen++) {
      is("14 pen " + pen, 40 - less[pen], keep.pen(pen, 1));
    }
    is("14 ninety", 103, keep.days(90));
    is("14 ink not below 0", 0, keep.pen(0, 0));
    is("14 n 0", Due.BEYOND, keep.days(0));
    is("14 n 91", Due.BEYOND, keep.days(91));
    is("14 n -1", Due.BEYOND, keep.days(-1));
    for (int i = 0; i < 109; i++) {
      keep.days(90);
    }
    is("14 at 9913", 9913, keep.count(1));
    is("14 above", Due.STATE, keep.days(87));
    is("14 to the last", 9999, keep.days(86));
    is("14 none more", Due.STATE, keep.days(1));
    is("14 beyond ahead of state", Due.BEYOND, keep.days(91));
  }

  /** The draws as the document tells them, in longs. */
  private static int z;

  private static int draw() {
    z = (int) (z * 1103515245L + 12345L);
    return (int) ((z & 0xFFFFFFFFL) >> 8);
  }

  private static void promise15Loose() {
    BoardKeep keep = new BoardKeep();
    z = 1;
    int column = draw() % 12;
    int kind = draw() % 7;
    int who = draw() % 6;
    is("15 a day", 0, keep.loose(1));
    is("15 z", z, keep.count(7));
    int[] first = {kind, 0, 1 << column, who, 0, 0, 0};
    for (int what = 0; what < 7; what++) {
      is("15 lineIs(0, " + what + ")", first[what], keep.lineIs(0, what));
    }
    is("15 a DAY went by", 1, keep.count(1));
    is("15 no PEN gets less but by the DAY", 39, keep.pen(1, 40));
    is("15 n 0", Due.BEYOND, keep.loose(0));
    is("15 n 31", Due.BEYOND, keep.loose(31));
    is("15 n -1", Due.BEYOND, keep.loose(-1));
    is("15 n stays", 1, keep.count(1));
    keep.loose(30);
    keep.loose(30);
    is("15 at most ten", 10, keep.count(0));
    for (int i = 0; i < 110; i++) {
      keep.days(90);
    }
    keep.loose(30);
    is("15 above", Due.STATE, keep.loose(9));
    is("15 at 9991", 9991, keep.count(1));
    keep.loose(8);
    is("15 the last", 9999, keep.count(1));
    is("15 none more", Due.STATE, keep.loose(1));
    is("15 beyond ahead of state", Due.BEYOND, keep.loose(31));
    BoardKeep full = new BoardKeep();
    full.write(0, 12, 0, 0);
    full.days(7);
    is("15 the only one is drawn", 1, full.loose(1));
    is("15 LOST", 15, full.count(3));
    is("15 FREE at once, so one more came", 2, full.count(0));
    is("15 it came on that DAY", 7, full.lineIs(1, 4));
  }

  /** What z is after so many draws more. */
  private static int zAfter(int from, int draws) {
    z = from;
    for (int i = 0; i < draws; i++) {
      draw();
    }
    return z;
  }

  private static void promise15Draws() {
    BoardKeep taken = new BoardKeep();
    taken.write(0, 12, 0, 0);
    is("15 may not go", 0, taken.loose(1));
    is("15 two draws if none is FREE", zAfter(1, 2), taken.count(7));
    is("15 no LINE more", 1, taken.count(0));
    taken.loose(6);
    is("15 two draws each", zAfter(1, 14), taken.count(7));
    is("15 wiped", 1, taken.loose(1));
    is("15 four draws", zAfter(1, 18), taken.count(7));
    BoardKeep empty = new BoardKeep();
    empty.loose(1);
    is("15 three draws without LINES", zAfter(1, 3), empty.count(7));
    BoardKeep full = new BoardKeep();
    for (int i = 0; i < 10; i++) {
      full.write(41, 100 * i + 1, 0, 1);
    }
    full.loose(30);
    is("15 two draws if ten are there", zAfter(1, 60), full.count(7));
    is("15 ten", 10, full.count(0));
  }

  private static void promise16Seed() {
    BoardKeep keep = new BoardKeep();
    is("16 was 1", 1, keep.seed(MIN));
    is("16 was MIN", MIN, keep.seed(Due.BEYOND));
    is("16 any number", Due.BEYOND, keep.seed(0));
    is("16 no error", 0, keep.told(1));
    is("16 becomes", 0, keep.count(7));
  }

  private static void promise17Free() {
    BoardKeep keep = new BoardKeep();
    is("17 none taken", 0, keep.free(0));
    is("17 twelve", 12, keep.free(1));
    is("17 run", 12, keep.free(2));
    is("17 first", 0, keep.free(3));
    keep.write(0, 301, 0, 0);
    keep.write(20, 701, 0, 0);
    is("17 taken", 0x88, keep.free(0));
    is("17 ten", 10, keep.free(1));
    is("17 longest", 4, keep.free(2));
    is("17 where", 8, keep.free(3));
    keep.write(0, 1101, 0, 0);
    is("17 all alike", 3, keep.free(2));
    is("17 first of several", 0, keep.free(3));
    is("17 what 4", Due.BEYOND, keep.free(4));
    is("17 what -1", Due.BEYOND, keep.free(-1));
    keep.days(1);
    keep.wipe(1);
    is("17 gone is FREE", 7, keep.free(2));
    is("17 from 4 on", 4, keep.free(3));
    BoardKeep full = new BoardKeep();
    full.write(0, 12, 0, 0);
    is("17 full", 4095, full.free(0));
    is("17 none FREE", 0, full.free(1));
    is("17 no run", 0, full.free(2));
    is("17 no first", Due.NONE, full.free(3));
  }

  private static void promise18Of() {
    BoardKeep keep = new BoardKeep();
    is("18 none", 0, keep.of(2));
    keep.write(20, 3, 2, 0);
    keep.write(20, 402, 2, 0);
    keep.write(20, 1101, 1, 0);
    is("18 the first of the PEOPLE", 0, keep.of(0));
    is("18 the last of the PEOPLE", 0, keep.of(5));
    is("18 both", 5, keep.of(2));
    is("18 other", 1, keep.of(1));
    keep.days(1);
    keep.wipe(0);
    is("18 gone", 2, keep.of(2));
    is("18 who 6", Due.BEYOND, keep.of(6));
    is("18 who -1", Due.BEYOND, keep.of(-1));
  }

  private static void promise19Room() {
    BoardKeep keep = new BoardKeep();
    keep.write(20, 3, 0, 0);
    keep.write(0, 402, 0, 0);
    keep.write(29, 701, 0, 0);
    keep.days(1);
    // DAY 1: LINES 0 (columns 0 .. 2, LOSS 22) and 2 (column 7, LOSS 27) MAY GO, 1 (4, 5) not.
    is("19 a free one", 0, keep.room(1, 0));
    is("19 the first free one", 3, keep.room(1, 1));
    is("19 no LINES", 0, keep.room(1, 2));
    is("19 GAIN", 10, keep.room(1, 3));
    is("19 four", 0, keep.room(4, 0));
    is("19 four from 8", 8, keep.room(4, 1));
    is("19 five", 27, keep.room(5, 0));
    is("19 the first five", 6, keep.room(5, 1));
    is("19 five's LINES", 4, keep.room(5, 2));
    is("19 six from 6", 6, keep.room(6, 1));
    is("19 no seven", Due.NONE, keep.room(7, 0));
    is("19 n 0", Due.BEYOND, keep.room(0, 0));
    is("19 n 13", Due.BEYOND, keep.room(13, 0));
    is("19 n -1", Due.BEYOND, keep.room(-1, 0));
    is("19 what 4", Due.BEYOND, keep.room(1, 4));
    is("19 what -1", Due.BEYOND, keep.room(1, -1));
    is("19 beyond ahead of none", Due.BEYOND, keep.room(7, 4));
    keep.days(6);
    // DAY 7: BACK is 7, 15, 12.
    is("19 all", 34, keep.room(12, 0));
    is("19 all of them", 7, keep.room(12, 2));
    is("19 GAIN of all", 120, keep.room(12, 3));
    is("19 seven", 7 + 15, keep.room(7, 0));
    is("19 seven's LINES", 3, keep.room(7, 2));
    is("19 eight", 15 + 12, keep.room(8, 0));
    is("19 the first eight", 3, keep.room(8, 1));
    Due.text(keep, 1, "f*100+d*10+w");
    keep.days(2);
    is("19 GAIN by names", 522, keep.room(5, 3));
    keep.wipe(2);
    is("19 gone is no LINE on it", 0, keep.room(5, 2));
    is("19 nor in GAIN", 520, keep.room(5, 3));
    Due.text(keep, 0, "m*0");
    is("19 first of several", 0, keep.room(5, 1));
    BoardKeep once = new BoardKeep();
    once.write(0, 6, 0, 0);
    once.write(0, 606, 0, 0);
    once.days(7);
    is("19 each LINE once", 30, once.room(12, 0));
    is("19 a part is the whole LINE", 15, once.room(2, 0));
  }

  private static void promise20When() {
    BoardKeep keep = new BoardKeep();
    is("20 now", 0, keep.when(12, 0));
    is("20 at 0", 0, keep.when(12, 1));
    keep.write(12, 4, 0, 0);
    keep.write(3, 404, 0, 0);
    keep.write(50, 804, 0, 0);
    // From DAY 14, 7 and 1 on.
    is("20 one", 1, keep.when(1, 0));
    is("20 one from 8", 8, keep.when(1, 1));
    is("20 five", 7, keep.when(5, 0));
    is("20 five from 4", 4, keep.when(5, 1));
    is("20 nine", 14, keep.when(9, 0));
    is("20 nothing is wiped", 4095, keep.free(0));
    keep.become(0, 19);
    is("20 nine later", 63, keep.when(9, 0));
    keep.become(0, 41);
    is("20 never", Due.NONE, keep.when(9, 0));
    is("20 never, where", Due.NONE, keep.when(9, 1));
    is("20 eight", 7, keep.when(8, 0));
    is("20 n 0", Due.BEYOND, keep.when(0, 0));
    is("20 n 13", Due.BEYOND, keep.when(13, 0));
    is("20 what 2", Due.BEYOND, keep.when(1, 2));
    is("20 what -1", Due.BEYOND, keep.when(1, -1));
    is("20 beyond ahead of none", Due.BEYOND, keep.when(9, 2));
    BoardKeep least = new BoardKeep();
    least.write(5, 6, 0, 0);
    least.write(2, 606, 0, 0);
    is("20 both at once", 7, least.when(6, 0));
    is("20 the ROOM of least LOSS then", 6, least.when(6, 1));
    BoardKeep late = new BoardKeep();
    for (int i = 0; i < 111; i++) {
      late.days(90);
    }
    late.pen(4, 99);
    late.write(0, 12, 0, 4);
    late.days(9);
    late.become(0, 19);
    is("20 DAY beyond 9999", 54, late.when(12, 0));
  }

  private static void promise21Clears() {
    BoardKeep keep = new BoardKeep();
    keep.write(20, 1, 0, 0);
    keep.write(0, 101, 0, 0);
    keep.write(12, 201, 0, 0);
    keep.write(60, 301, 0, 0);
    keep.write(41, 401, 0, 0);
    int[][] rows = {{0, 31}, {1, 31}, {2, 30}, {7, 30}, {8, 28}, {14, 28}, {15, 24}, {90, 24}};
    for (int[] row : rows) {
      is("21 clears(" + row[0] + ")", row[1], keep.clears(row[0]));
    }
    is("21 only thought", 31, keep.free(0));
    keep.spirit(1);
    is("21 with SPIRIT", 28 - 8, keep.clears(8));
    keep.days(1);
    is("21 now it's still there", 31, keep.clears(0));
    is("21 a DAY on", 30, keep.clears(1));
    keep.wipe(0);
    is("21 gone", 30, keep.clears(0));
    is("21 n 91", Due.BEYOND, keep.clears(91));
    is("21 n -1", Due.BEYOND, keep.clears(-1));
  }

  private static int parts(BoardKeep keep, int... wants) {
    keep.sheet(0, 8, wants.length);
    for (int i = 0; i < wants.length; i++) {
      keep.put(0, i, wants[i]);
    }
    return keep.parts(0);
  }

  private static void promise22Parts() {
    BoardKeep keep = new BoardKeep();
    is("22 missing", Due.NONE, keep.parts(0));
    is("22 sheet 4", Due.BEYOND, keep.parts(4));
    is("22 sheet -1", Due.BEYOND, keep.parts(-1));
    is("22 nobody", 0, parts(keep));
    is("22 one", 1, parts(keep, 12));
    is("22 two don't", 1, parts(keep, 12, 12));
    is("22 six", 6, parts(keep, 2, 2, 2, 2, 2, 2));
    is("22 five of six", 5, parts(keep, 2, 2, 2, 2, 2, 3));
    is("22 seven", Due.NONE, parts(keep, 1, 1, 1, 1, 1, 1, 1));
    is("22 seven wrong ones", Due.NONE, parts(keep, 0, 0, 0, 0, 0, 0, 0));
    is("22 a 0", Due.STATE, parts(keep, 1, 0));
    is("22 a 13", Due.STATE, parts(keep, 1, 13));
    is("22 a -1", Due.STATE, parts(keep, -1));
    keep.write(0, 501, 0, 0);
    // Runs of 5 and 6.
    is("22 no 7", 0, parts(keep, 7));
    is("22 both runs", 2, parts(keep, 6, 5));
    is("22 greedy would fail", 4, parts(keep, 2, 3, 3, 3));
    is("22 not all", 3, parts(keep, 4, 4, 2, 2));
    is("22 the small ones", 3, parts(keep, 6, 6, 3, 1, 4));
    keep.write(0, 901, 0, 0);
    // Runs of 5, 3 and 2.
    is("22 three runs", 4, parts(keep, 2, 3, 2, 3));
    is("22 all but one", 2, parts(keep, 4, 3, 4));
    keep.write(0, 5, 0, 1);
    is("22 two left", 2, parts(keep, 2, 3, 3));
    BoardKeep full = new BoardKeep();
    full.write(0, 12, 0, 0);
    is("22 none FREE", 0, parts(full, 1, 1));
    full.sheet(1, 16, 2);
    full.sheet(1, 0, 0);
    is("22 missing again", Due.NONE, full.parts(1));
    full.sheet(3, 8, 0);
    is("22 the last SHEET", 0, full.parts(3));
  }

  private static void promise23Odds() {
    BoardKeep keep = new BoardKeep();
    is("23 none", 1, keep.odds(0, 0));
    is("23 none, below", 1, keep.odds(0, 1));
    keep.write(0, 1, 0, 0);
    keep.write(10, 101, 0, 0);
    keep.write(49, 201, 0, 0);
    keep.write(29, 301, 0, 0);
    keep.write(5, 401, 0, 0);
    // BACK: 50, 70, 99, 29, 55
    is("23 a half", 1, keep.odds(1, 0));
    is("23 a half, below", 2, keep.odds(1, 1));
    is("23 1 by 100", 1, keep.odds(4, 0));
    is("23 1 by 100, below", 100, keep.odds(4, 1));
    is("23 two", 3, keep.odds(3, 0));
    is("23 two, below", 20, keep.odds(3, 1));
    is("23 four", 213, keep.odds(15, 0));
    is("23 four, below", 200000, keep.odds(15, 1));
    is("23 other four", 1917, keep.odds(30, 0));
    is("23 other four, below", 1000000 * 2, keep.odds(30, 1));
    is("23 five", Due.BEYOND, keep.odds(31, 0));
    is("23 not there", Due.BEYOND, keep.odds(32, 0));
    is("23 below 0", Due.BEYOND, keep.odds(-1, 0));
    is("23 MIN", Due.BEYOND, keep.odds(MIN, 0));
    is("23 part 2", Due.BEYOND, keep.odds(1, 2));
    is("23 part -1", Due.BEYOND, keep.odds(1, -1));
    is("23 told", 6, keep.told(1));
    keep.days(20);
    keep.become(4, 0);
    is("23 sure", 1, keep.odds(16, 0));
    is("23 sure, below", 1, keep.odds(16, 1));
    keep.wipe(0);
    is("23 gone is there", 1, keep.odds(1, 1));
  }

  private static int fits(BoardKeep keep, int... taken) {
    keep.sheet(3, 32, taken.length);
    for (int i = 0; i < taken.length; i++) {
      keep.put(3, i, taken[i]);
    }
    return keep.fits(3);
  }

  private static void promise24Fits() {
    BoardKeep keep = new BoardKeep();
    is("24 missing", Due.NONE, keep.fits(0));
    is("24 sheet 4", Due.BEYOND, keep.fits(4));
    is("24 sheet -1", Due.BEYOND, keep.fits(-1));
    is("24 nothing told", 0, fits(keep));
    is("24 all FREE", 0, fits(keep, 0, 0, 0, 0, 0, 0, 0, 0, 0, 0, 0, 0));
    is("24 thirteen", Due.NONE, fits(keep, 0, 0, 0, 0, 0, 0, 0, 0, 0, 0, 0, 0, 0));
    keep.write(20, 1, 0, 0);
    keep.write(0, 101, 0, 0);
    keep.write(19, 201, 0, 0);
    keep.write(41, 301, 0, 0);
    is("24 now", 0, fits(keep, 1, 1, 1, 1, 0));
    is("24 the first gone", 2, fits(keep, 0));
    is("24 two gone", 8, fits(keep, 0, 0, 1, 1));
    is("24 three gone", 64, fits(keep, 0, 0, 0, 1, 0));
    is("24 never", Due.NONE, fits(keep, 0, 0, 0, 0));
    is("24 not in this order", Due.NONE, fits(keep, 1, 0));
    is("24 nobody comes", Due.NONE, fits(keep, 1, 1, 1, 1, 1));
    is("24 a 2 is neither", Due.NONE, fits(keep, 2));
    is("24 only thought", 15, keep.free(0));
  }

  private static BoardKeep withLines(int... kms) {
    BoardKeep keep = new BoardKeep();
    for (int i = 0; i < kms.length; i++) {
      keep.write(kms[i], 100 * i + 1, 0, 0);
    }
    return keep;
  }

  private static void voiceIs(BoardKeep keep, int line, int voice, int x, int want, int... bodies) {
    String what = "25 voice(" + line + ", " + voice + ", " + x + ")";
    is(what, want, keep.voice(line, voice, x));
    is(what + " BODIES", bodies.length, keep.count(6));
    for (int i = 0; i < bodies.length; i++) {
      is(what + " body(" + i + ")", bodies[i], keep.body(i));
    }
  }

  private static void promise25Voice() {
    BoardKeep keep = withLines(5, 15, 25, 35, 45, 53, 61, 8);
    voiceIs(keep, 0, 0, 9, 9, 10);
    voiceIs(keep, 7, 0, 9, 16, 10);
    voiceIs(keep, 7, 1, 9, 32, 11, 10);
    voiceIs(keep, 7, 2, 9, 24, 12, 11, 10);
    voiceIs(keep, 7, 3, -9, -9, 13);
    voiceIs(keep, 0, 3, -9, -1, 13);
    voiceIs(keep, 1, 0, 9, 6, 20, 10);
    voiceIs(keep, 1, 1, 9, 12, 11, 20, 10);
    voiceIs(keep, 1, 2, 9, 7, 12, 11, 20, 10);
    // 9 by 4 is 2, squeaks(1) is -2
    voiceIs(keep, 1, 3, 9, -2, 21, 13, 11, 20, 10);
    voiceIs(keep, 2, 0, 9, 11, 10);
    voiceIs(keep, 2, 1, 9, -22, 30, 11, 10);
    voiceIs(keep, 2, 2, 9, -27, 12, 30, 11, 10);
    voiceIs(keep, 2, 3, 9, 3, 13);
    voiceIs(keep, 3, 1, 9, 24, 11, 10);
    // x / 2 is 4: 2 * (4 + 3) - 5
    voiceIs(keep, 3, 2, 9, 9, 40, 12, 11, 10);
    voiceIs(keep, 3, 2, -9, -7, 40, 12, 11, 10);
    // (9 + 4 - 4) * 3
    voiceIs(keep, 4, 0, 9, 27, 50, 20, 10);
    voiceIs(keep, 4, 1, 9, 54, 11, 50, 20, 10);
    // (54 - 5) ^ 4
    voiceIs(keep, 4, 2, 9, 53, 51, 12, 11, 50, 20, 10);
    // 9 by 1, and 2 * 3 * 1
    voiceIs(keep, 4, 3, 9, 15, 21, 13, 11, 50, 20, 10);
    voiceIs(keep, 5, 0, 9, 14, 10);
    // -2 * (10 + 5)
    voiceIs(keep, 5, 1, 9, -30, 60, 30, 11, 10);
    voiceIs(keep, 5, 2, 9, -33, 12, 60, 30, 11, 10);
    voiceIs(keep, 5, 3, 9, -4, 13);
    voiceIs(keep, 6, 0, 100, 9, 70);
    voiceIs(keep, 6, 1, 100, 19, 71, 11, 70);
    voiceIs(keep, 6, 2, 100, 18, 12, 71, 11, 70);
    voiceIs(keep, 6, 3, 100, -20, 13);
    voiceIs(keep, 7, 0, MAX, MIN + 6, 10);
    voiceIs(keep, 7, 1, 1 << 30, MIN + 14, 11, 10);
    is("25 line 8", Due.BEYOND, keep.voice(8, 0, 0));
    is("25 line -1", Due.BEYOND, keep.voice(-1, 0, 0));
    is("25 voice 4", Due.BEYOND, keep.voice(0, 4, 0));
    is("25 voice -1", Due.BEYOND, keep.voice(0, -1, 0));
    is("25 BEYOND leaves THE TRACE", 2, keep.count(6));
    is("25 told BEYOND", 4, keep.told(1));
    is("25 any number", Due.BEYOND, keep.voice(0, 0, Due.BEYOND));
    is("25 is no error", 4, keep.told(1));
    is("25 never PARTED", 0, keep.told(6));
  }

  private static void promise25Parted() {
    BoardKeep keep = withLines(0, 11, 29, 35, 44);
    voiceIs(keep, 0, 3, 9, Due.PARTED, 13);
    // What is right of the one that PARTED is not begun any more.
    voiceIs(keep, 1, 3, 9, Due.PARTED, 21, 13);
    voiceIs(keep, 4, 3, 9, Due.PARTED, 21, 13);
    voiceIs(keep, 4, 0, 9, 27, 50, 20, 10);
    is("25 PARTED told", 3, keep.told(6));
    keep.become(2, 21);
    is("25 MIN by -1 wraps", MIN, keep.voice(2, 3, MIN));
  }

  private static void promise26Body() {
    BoardKeep keep = withLines(5);
    is("26 none yet", Due.NONE, keep.body(0));
    keep.voice(0, 2, 0);
    is("26 first", 12, keep.body(0));
    is("26 last", 10, keep.body(2));
    is("26 behind", Due.NONE, keep.body(3));
    is("26 -1", Due.NONE, keep.body(-1));
    is("26 MIN", Due.NONE, keep.body(MIN));
    keep.voice(0, 0, 0);
    is("26 the latest alone", Due.NONE, keep.body(1));
    is("26 no BEYOND", 0, keep.told(1));
    is("26 NONE told", 5, keep.told(2));
  }

  private static void promise27Sheet() {
    BoardKeep keep = new BoardKeep();
    is("27 eight", 1, keep.sheet(0, 8, 24));
    is("27 sixteen", 1, keep.sheet(1, 16, 0));
    is("27 thirty-two", 1, keep.sheet(3, 32, 1));
    is("27 the last number", 1, keep.put(0, 23, 1));
    is("27 no number", Due.BEYOND, keep.put(1, 0, 1));
    is("27 sheet 4", Due.BEYOND, keep.sheet(4, 8, 1));
    is("27 sheet -1", Due.BEYOND, keep.sheet(-1, 8, 1));
    is("27 bits 7", Due.BEYOND, keep.sheet(0, 7, 1));
    is("27 bits -8", Due.BEYOND, keep.sheet(0, -8, 1));
    is("27 bits 64", Due.BEYOND, keep.sheet(0, 64, -1));
    is("27 n 25", Due.BEYOND, keep.sheet(0, 8, 25));
    is("27 n -1", Due.STATE, keep.sheet(0, 8, -1));
    is("27 n MIN", Due.STATE, keep.sheet(0, 8, MIN));
    is("27 sheet ahead of n", Due.BEYOND, keep.sheet(4, 8, -1));
    is("27 stays", 1, keep.put(0, 23, 1));
    is("27 missing, n doesn't matter", 1, keep.sheet(0, 0, -1));
    is("27 missing", Due.NONE, keep.put(0, 0, 1));
    is("27 missing, n 25", 1, keep.sheet(0, 0, 25));
    keep.write(5, 1, 0, 0);
    keep.sheet(2, 8, 1);
    keep.put(2, 0, 55);
    is("27 put", 1, keep.judge(2));
    keep.sheet(2, 8, 1);
    is("27 all 0 again", 0, keep.judge(2));
    is("27 are 0: FREE behind 8", 8, keep.fits(2));
  }

  private static void promise28Put() {
    BoardKeep keep = new BoardKeep();
    keep.write(5, 1, 0, 0);
    is("28 missing", Due.NONE, keep.put(0, 0, 1));
    is("28 missing ahead of no such number", Due.NONE, keep.put(0, -1, 1));
    is("28 sheet 4", Due.BEYOND, keep.put(4, 0, 1));
    is("28 sheet -1", Due.BEYOND, keep.put(-1, 0, 1));
    keep.sheet(0, 8, 1);
    is("28 put", 1, keep.put(0, 0, 55));
    is("28 number 1", Due.BEYOND, keep.put(0, 1, 55));
    is("28 number -1", Due.BEYOND, keep.put(0, -1, 55));
    is("28 is it", 1, keep.judge(0));
    keep.put(0, 0, 0x7FFFFF00 + 55);
    is("28 lowest 8", 1, keep.judge(0));
    keep.sheet(0, 16, 1);
    keep.put(0, 0, 256 + 55);
    is("28 not of 16", 0, keep.judge(0));
    keep.put(0, 0, 0x7FFF0000 + 55);
    is("28 lowest 16", 1, keep.judge(0));
    keep.sheet(0, 32, 1);
    keep.put(0, 0, 65536 + 55);
    is("28 not of 32", 0, keep.judge(0));
    keep.put(0, 0, 55);
    is("28 of 32", 1, keep.judge(0));
    keep.days(90);
    keep.days(90);
    keep.days(90);
    keep.sheet(0, 8, 1);
    keep.put(0, 0, 127);
    is("28 127 is 127 in 8 bits", 1, keep.dates(0));
    keep.put(0, 0, 200);
    is("28 200 is below 0 in 8 bits, as in Java", 0, keep.dates(0));
    keep.sheet(0, 16, 1);
    keep.put(0, 0, 200);
    is("28 200 is 200 in 16 bits", 1, keep.dates(0));
  }

  private static void promise29Move() {
    BoardKeep keep = withLines(0, 0, 0, 0, 0);
    keep.days(9);
    keep.sheet(0, 16, 5);
    keep.sheet(1, 16, 3);
    keep.sheet(2, 8, 5);
    for (int i = 0; i < 5; i++) {
      keep.put(0, i, i + 1);
    }
    is("29 ahead by two", 3, keep.move(0, 0, 0, 2, 3));
    is("29 five", 5, keep.dates(0));
    datedAre(keep, 1, 2, 1, 2, 3);
    is("29 back by one", 4, keep.move(0, 1, 0, 0, 4));
    keep.dates(0);
    datedAre(keep, 2, 1, 2, 3, 3);
    is("29 to another", 2, keep.move(0, 3, 1, 1, 2));
    keep.dates(1);
    datedAre(keep, 0, 3, 3, 3, 3);
    is("29 none", 0, keep.move(0, 5, 1, 3, 0));
    is("29 all", 3, keep.move(1, 0, 0, 0, 3));
    is("29 sheet 4", Due.BEYOND, keep.move(4, 0, 0, 0, 0));
    is("29 other -1", Due.BEYOND, keep.move(0, 0, -1, 0, 0));
    is("29 beyond ahead of missing", Due.BEYOND, keep.move(3, 0, 4, 0, 0));
    is("29 missing", Due.NONE, keep.move(3, 0, 0, 0, 0));
    is("29 other missing", Due.NONE, keep.move(0, 0, 3, 0, 0));
    is("29 missing ahead of the rest", Due.NONE, keep.move(0, -1, 3, -1, -1));
    is("29 unlike", Due.KIND, keep.move(0, 0, 2, 0, 0));
    is("29 unlike ahead of beyond", Due.KIND, keep.move(2, -1, 0, -1, 99));
    int[][] beyond = {
      {0, 0, -1}, {-1, 0, 1}, {0, -1, 1}, {0, 0, 4}, {3, 0, 3}, {0, 1, 3}, {6, 0, 0}, {0, 4, 0}, {MAX, 0, 1}, {1, 0, MAX}, {0, MAX, 1},
      {MIN, 0, 0}, {0, MIN, 0}, {0, 0, MIN}, {MAX, MAX, MAX}};
    for (int[] row : beyond) {
      is("29 move" + java.util.Arrays.toString(row), Due.BEYOND, keep.move(0, row[0], 1, row[1], row[2]));
    }
  }

  private static void datedAre(BoardKeep keep, int... dates) {
    for (int line = 0; line < dates.length; line++) {
      is("dated of " + line, dates[line], keep.lineIs(line, 4));
    }
  }

  private static void promise30Dates() {
    BoardKeep keep = withLines(0, 0, 0);
    keep.days(5);
    is("30 missing", Due.NONE, keep.dates(0));
    is("30 sheet 4", Due.BEYOND, keep.dates(4));
    is("30 sheet -1", Due.BEYOND, keep.dates(-1));
    keep.sheet(0, 32, 5);
    int[] dates = {5, 0, 3, 4, 4};
    for (int i = 0; i < 5; i++) {
      keep.put(0, i, dates[i]);
    }
    is("30 up to the last LINE", 3, keep.dates(0));
    datedAre(keep, 5, 0, 3);
    keep.put(0, 0, 1);
    keep.put(0, 1, 6);
    keep.put(0, 2, 2);
    is("30 above DAY", 1, keep.dates(0));
    datedAre(keep, 1, 0, 3);
    keep.put(0, 0, 2);
    keep.put(0, 1, -1);
    is("30 below 0", 1, keep.dates(0));
    datedAre(keep, 2, 0, 3);
    keep.put(0, 0, 6);
    is("30 none", 0, keep.dates(0));
    datedAre(keep, 2, 0, 3);
    keep.sheet(0, 8, 2);
    is("30 all of them", 2, keep.dates(0));
    keep.sheet(3, 8, 0);
    is("30 the last SHEET", 0, keep.dates(3));
    is("30 no error but those", 2, keep.told(1));
    is("30 nor NONE", 1, keep.told(2));
  }

  private static void promise31Judge() {
    BoardKeep keep = withLines(5, 15, 25);
    is("31 missing", Due.NONE, keep.judge(0));
    is("31 sheet 4", Due.BEYOND, keep.judge(4));
    is("31 sheet -1", Due.BEYOND, keep.judge(-1));
    keep.sheet(0, 16, 4);
    int[] backs = {55, 75, 27, 0};
    for (int i = 0; i < 4; i++) {
      keep.put(0, i, backs[i]);
    }
    is("31 three, and no fourth LINE", 3, keep.judge(0));
    keep.put(0, 1, 74);
    is("31 from the first on", 1, keep.judge(0));
    keep.put(0, 0, 54);
    is("31 none", 0, keep.judge(0));
    keep.sheet(0, 16, 2);
    keep.put(0, 0, 50);
    keep.put(0, 1, 70);
    keep.days(1);
    is("31 now", 2, keep.judge(0));
    keep.sheet(3, 8, 0);
    is("31 the last SHEET", 0, keep.judge(3));
  }

  private static void promise32Image() {
    BoardKeep keep = new BoardKeep();
    is("32 once", 1, keep.image());
    keep.days(2);
    is("32 twice", 2, keep.image());
    keep.days(2);
    is("32 in place of one ahead", 2, keep.restore());
    is("32 not of the IMAGE", 3, keep.image());
  }

  private static void promise33Restore() {
    BoardKeep keep = withLines(5, 15, 25);
    is("33 none", Due.NONE, keep.restore());
    keep.days(3);
    keep.spirit(1);
    keep.photo(1, 1);
    keep.wipe(2);
    keep.seed(99);
    keep.pen(4, 7);
    Due.text(keep, 0, "b+m");
    Due.feed(keep, "12");
    keep.tell(30);
    keep.tell(31);
    keep.sheet(0, 8, 1);
    keep.voice(0, 0, 0);
    keep.image();
    int lost = keep.count(3);
    keep.write(0, 501, 1, 3);
    keep.become(0, 69);
    keep.photo(1, 0);
    keep.loose(9);
    keep.spirit(0);
    keep.pen(4, 70);
    keep.untell(0);
    Due.text(keep, 1, "1");
    keep.tell(1);
    keep.check();
    keep.sheet(0, 0, 0);
    keep.voice(0, 2, 0);
    is("33 DAY", 3, keep.restore());
    int[] counts = {3, 3, 1, lost, 2, 2, 3, 99};
    for (int what = 0; what < 8; what++) {
      if (what != 6) {
        is("33 count(" + what + ")", counts[what], keep.count(what));
      }
    }
    is("33 THE TRACE is not of it", 12, keep.body(0));
    is("33 SHEETS are not of it", Due.NONE, keep.put(0, 0, 0));
    is("33 what told() tells is not of it", 2, keep.told(2));
    is("33 kind", 0, keep.lineIs(0, 0));
    is("33 m", 5, keep.lineIs(0, 1));
    is("33 photo", 1, keep.lineIs(1, 5));
    is("33 gone", 1, keep.lineIs(2, 6));
    is("33 no fourth", Due.BEYOND, keep.lineIs(3, 0));
    is("33 pen", 7, keep.pen(4, 8));
    is("33 LOSS by TEXT", 14, keep.law(0, 9, 5, 0));
    is("33 no other TEXT", 0, keep.untell(1));
    is("33 THE TAPE", 1, keep.text(1));
    is("33 its bytes", 12, keep.law(1, 0, 0, 0));
    keep.days(1);
    is("33 it stays", 3, keep.restore());
    is("33 pen again", 7, keep.pen(4, 8));
    is("33 no TEXT again", 0, keep.untell(1));
    Due.text(keep, 0, "b-m");
    keep.restore();
    is("33 the TEXT of then", 14, keep.law(0, 9, 5, 0));
  }

  private static void promise34Tell() {
    BoardKeep keep = new BoardKeep();
    for (int i = 1; i <= 24; i++) {
      is("34 tell " + i, i, keep.tell(MIN));
    }
    is("34 full", Due.FULL, keep.tell(40));
    is("34 how many", 24, keep.count(5));
    keep.check();
    is("34 first again", 1, keep.tell(40));
  }

  private static int check(BoardKeep keep, int... inks) {
    for (int ink : inks) {
      keep.tell(ink);
    }
    return keep.check();
  }

  private static void promise35Check() {
    BoardKeep keep = new BoardKeep();
    is("35 none", 0, check(keep));
    keep.pen(2, 12);
    is("35 all", 0, check(keep, 40, 40, 12, 40, 40));
    is("35 none wait then", 0, keep.count(5));
    is("35 some", 0, check(keep, 40, 40, 12));
    is("35 first", 1, check(keep, 41));
    is("35 third", 3, check(keep, 40, 40, 40, 41));
    is("35 none wait", 0, keep.count(5));
    is("35 no such PEN", 6, check(keep, 40, 40, 12, 40, 40, 40));
    is("35 ahead of it", 5, check(keep, 40, 40, 12, 40, 0, 40));
  }

  private static void promise36Count() {
    BoardKeep keep = withLines(20, 35);
    keep.days(4);
    keep.spirit(1);
    keep.wipe(0);
    Due.feed(keep, "abc");
    keep.tell(1);
    keep.tell(1);
    keep.tell(1);
    keep.tell(1);
    keep.voice(1, 2, 1);
    keep.seed(-77);
    int[] counts = {2, 4, 1, 15, 3, 4, 4, -77};
    for (int what = 0; what < 8; what++) {
      is("36 count(" + what + ")", counts[what], keep.count(what));
    }
    is("36 what 8", Due.BEYOND, keep.count(8));
    is("36 what -1", Due.BEYOND, keep.count(-1));
    keep.seed(Due.STATE);
    is("36 z, any number", Due.STATE, keep.count(7));
    is("36 no error", 0, keep.told(3));
  }

  private static void promise37Told() {
    BoardKeep keep = withLines(0);
    keep.of(9);
    keep.of(9);
    keep.restore();
    keep.wipe(0);
    for (int i = 0; i < 25; i++) {
      keep.tell(1);
    }
    keep.as(0, 1);
    keep.voice(0, 3, 1);
    int[] told = {2, 1, 1, 1, 1, 1};
    for (int k = 1; k <= 6; k++) {
      is("37 told(" + k + ")", told[k - 1], keep.told(k));
    }
    is("37 told(0)", Due.BEYOND, keep.told(0));
    is("37 told(7)", Due.BEYOND, keep.told(7));
    is("37 told(-1)", Due.BEYOND, keep.told(-1));
    is("37 counted, too", 5, keep.told(1));
    keep.odds(-1, 0);
    is("37 in longs, too", 6, keep.told(1));
    keep.image();
    keep.restore();
    is("37 stays", 6, keep.told(1));
  }
}
