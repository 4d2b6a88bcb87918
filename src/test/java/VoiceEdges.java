/** VOICES: term 4, and promises 25 and 26. */
final class VoiceEdges {
  private static final int SQUEAKS = 0;
  private static final int SMEARS = 1;
  private static final int STAYS = 2;
  private static final int PARTS = 3;

  private VoiceEdges() {
  }

  /** A board on which LINE 1 is such a one; k is 1. */
  private static BoardKeep one(int km) {
    return Edge.lines(0, km);
  }

  private static void says(int km, int voice, int x, int want, int... trace) {
    BoardKeep keep = one(km);
    Edge.is("km " + km + " VOICE " + voice + " of " + x, want, keep.voice(1, voice, x));
    Edge.is("km " + km + " VOICE " + voice + ": how many BODIES", trace.length, keep.count(6));
    for (int i = 0; i < trace.length; i++) {
      Edge.is("km " + km + " VOICE " + voice + ": body(" + i + ")", trace[i], keep.body(i));
    }
  }

  // ---- term 4

  @Says(at = "T4", text = "VOICES of a LINE, with a number x (ints that wrap); k is the number, m as told: 0 squeaks, 1 smears, 2 stays, 3 parts.")
  static void wrap() {
    says(0, SQUEAKS, Edge.MAX, Edge.MIN, 10);
    says(0, SMEARS, 1 << 30, Edge.MIN + 2, 11, 10);
    says(0, SMEARS, Edge.MAX, 0, 11, 10);
    // 2 * (MAX - 1 + 1) - 9 is -2 - 9; wrapped twice from MIN: 2 * (MIN + 1) is 2
    says(9, STAYS, Edge.MIN, 2 - 9, 12, 11, 10);
    says(9, STAYS, Edge.MAX - 1, -2 - 9, 12, 11, 10);
    says(10, SQUEAKS, Edge.MIN, Edge.MAX - 2, 20, 10);
    // 2 * (2 to the 30th - 1 + 1) is MIN, and 0 - MIN is MIN
    says(20, SMEARS, (1 << 30) - 1, Edge.MIN, 30, 11, 10);
    // MAX + 1 - 4 is MAX - 3, and 3 times that MAX - 11
    says(40, SQUEAKS, Edge.MAX, Edge.MAX - 11, 50, 20, 10);
    // x + 1 is MIN; 2 * (MIN + 1) is 2
    says(50, SMEARS, Edge.MAX, -2, 60, 30, 11, 10);
    says(69, SMEARS, Edge.MIN, 27, 71, 11, 70);
  }

  @Says(at = "T4", text = "k is the number, m as told")
  static void number() {
    BoardKeep keep = Edge.lines(9, 0, 0, 0, 0, 0, 0, 0, 0, 0);
    Edge.is("k 0", 5, keep.voice(0, SQUEAKS, 5));
    Edge.is("k 9", 14, keep.voice(9, SQUEAKS, 5));
    Edge.is("m 9", 1, keep.voice(0, STAYS, 5));
    keep.become(0, 1);
    Edge.is("m 1 by now", 9, keep.voice(0, STAYS, 5));
  }

  @Says(at = "T4", text = "BODIES: Line: 10 squeaks: x + k.")
  static void body10() {
    says(7, SQUEAKS, 5, 6, 10);
    says(7, SQUEAKS, -1, 0, 10);
    says(24, SQUEAKS, 5, 6, 10);
    says(34, SQUEAKS, 5, 6, 10);
    says(54, SQUEAKS, 5, 6, 10);
  }

  @Says(at = "T4", text = "11 smears: squeaks(x) * 2.")
  static void body11() {
    says(7, SMEARS, 5, 12, 11, 10);
    says(34, SMEARS, 5, 12, 11, 10);
    says(14, SMEARS, 5, 4, 11, 20, 10);
    says(44, SMEARS, 5, 12, 11, 50, 20, 10);
  }

  @Says(at = "T4", text = "12 stays: smears(x) - m.")
  static void body12() {
    says(7, STAYS, 5, 5, 12, 11, 10);
    says(0, STAYS, 5, 12, 12, 11, 10);
    says(14, STAYS, 5, 0, 12, 11, 20, 10);
    says(24, STAYS, 5, -16, 12, 30, 11, 10);
    says(54, STAYS, 5, -18, 12, 60, 30, 11, 10);
    says(64, STAYS, 5, 18, 12, 71, 11, 70);
  }

  @Says(at = "T4", text = "13 parts: x by (m - k), cut")
  static void partsCut() {
    says(3, PARTS, 7, 3, 13);
    says(3, PARTS, -7, -3, 13);
    says(0, PARTS, 7, -7, 13);
    says(0, PARTS, Edge.MIN, Edge.MIN, 13);
    says(9, PARTS, 7, 0, 13);
    says(9, PARTS, -7, 0, 13);
    says(2, PARTS, 0, 0, 13);
    says(2, PARTS, Edge.MAX, Edge.MAX, 13);
    says(24, PARTS, 7, 2, 13);
    says(34, PARTS, 7, 2, 13);
    says(54, PARTS, 7, 2, 13);
    says(64, PARTS, 7, 2, 13);
  }

  @Says(at = "T4", text = "(PARTED if that is 0; that is all that voice() answers then)")
  static void parted() {
    says(1, PARTS, 7, Due.PARTED, 13);
    says(1, PARTS, 0, Due.PARTED, 13);
    says(21, PARTS, 7, Due.PARTED, 13);
    // It isn't joined to what smears(1) is.
    says(11, PARTS, 7, Due.PARTED, 21, 13);
    says(41, PARTS, 7, Due.PARTED, 21, 13);
    says(61, PARTS, 7, Due.PARTED, 13);
    says(61, STAYS, 7, 18, 12, 71, 11, 70);
    BoardKeep keep = one(1);
    keep.voice(1, PARTS, 7);
    Edge.is("told", 1, keep.told(6));
    Edge.is("behind it all is as ever", 8, keep.voice(1, SQUEAKS, 7));
    keep.become(1, 11);
    keep.voice(1, PARTS, 7);
    keep.become(1, 12);
    // 7 by 1, and 2 * (1 + 1 - 4)
    Edge.is("and parts, too", 3, keep.voice(1, PARTS, 7));
  }

  @Says(at = "T4", text = "Sum: 20 squeaks: super.squeaks(x) - 4.")
  static void body20() {
    says(14, SQUEAKS, 5, 2, 20, 10);
    says(10, SQUEAKS, 3, 0, 20, 10);
  }

  @Says(at = "T4", text = "21 parts: super.parts(x) + smears(1).")
  static void body21() {
    // 7 by 3 is 2; smears(1) is 2 * -2
    says(14, PARTS, 7, -2, 21, 13, 11, 20, 10);
    // smears(1) is 2 * 3 * -2
    says(44, PARTS, 7, -10, 21, 13, 11, 50, 20, 10);
  }

  @Says(at = "T4", text = "Arrow: 30 smears: 0 - super.smears(x).")
  static void body30() {
    says(24, SMEARS, 5, -12, 30, 11, 10);
    says(24, SMEARS, -1, 0, 30, 11, 10);
  }

  @Says(at = "T4", text = "Green: 40 stays: super.stays(x / 2).")
  static void body40() {
    says(34, STAYS, 5, 2, 40, 12, 11, 10);
    says(34, STAYS, -5, -6, 40, 12, 11, 10);
    says(34, STAYS, -1, -2, 40, 12, 11, 10);
    says(34, STAYS, 1, -2, 40, 12, 11, 10);
  }

  @Says(at = "T4", text = "Framed: 50 squeaks: super.squeaks(x) * 3.")
  static void body50() {
    says(44, SQUEAKS, 5, 6, 50, 20, 10);
    says(44, SQUEAKS, 3, 0, 50, 20, 10);
  }

  @Says(at = "T4", text = "51 stays: super.stays(x) ^ k.")
  static void body51() {
    // 12 - 4 is 8
    says(44, STAYS, 5, 9, 51, 12, 11, 50, 20, 10);
    // 12 - 3 is 9
    says(43, STAYS, 5, 8, 51, 12, 11, 50, 20, 10);
    // 0 - 1 is -1
    says(41, STAYS, 3, -2, 51, 12, 11, 50, 20, 10);
    BoardKeep keep = Edge.lines(40, 0, 0, 0, 0, 40);
    // 2 * 3 * (5 - 4) is 6; 2 * 3 * (5 + 5 - 4) is 36
    Edge.is("k 0", 6, keep.voice(0, STAYS, 5));
    Edge.is("k 5", 36 ^ 5, keep.voice(5, STAYS, 5));
  }

  @Says(at = "T4", text = "Boxed: 60 smears: super.smears(x + 1).")
  static void body60() {
    says(54, SMEARS, 5, -14, 60, 30, 11, 10);
    says(54, SMEARS, -2, 0, 60, 30, 11, 10);
  }

  @Says(at = "T4", text = "Stain: 70 squeaks: 9.")
  static void body70() {
    says(64, SQUEAKS, Edge.MIN, 9, 70);
    says(64, SQUEAKS, 0, 9, 70);
  }

  @Says(at = "T4", text = "71 smears: super.smears(x) + m.")
  static void body71() {
    says(64, SMEARS, 5, 22, 71, 11, 70);
    says(60, SMEARS, 5, 18, 71, 11, 70);
  }

  @Says(at = "T4", text = "squeaks(..) is the BODY of its KIND, or of the next KIND above that has one; super.squeaks(..) that from the KIND above the BODY's on.")
  static void whichBody() {
    // By VOICE and KIND: the BODY that begins first, or that of it which is behind its own.
    int[][] first = {{10, 20, 10, 10, 50, 10, 70}, {11, 11, 30, 11, 11, 60, 71}, {12, 12, 12, 40, 51, 12, 12}, {13, 21, 13, 13, 21, 13, 13}};
    int[][] second = {{0, 10, 0, 0, 20, 0, 0}, {10, 20, 11, 10, 50, 30, 11}, {11, 11, 30, 12, 12, 60, 71}, {0, 13, 0, 0, 13, 0, 0}};
    for (int voice = 0; voice < 4; voice++) {
      for (int kind = 0; kind < 7; kind++) {
        BoardKeep keep = one(10 * kind + 5);
        keep.voice(1, voice, 8);
        Edge.is("VOICE " + voice + " of KIND " + kind, first[voice][kind], keep.body(0));
        Edge.is("VOICE " + voice + " of KIND " + kind + ", second", second[voice][kind] == 0 ? Due.NONE : second[voice][kind], keep.body(1));
      }
    }
  }

  /** The longest TRACE has six BODIES, so 30 can't be had. */
  @Says(at = "T4", text = "THE TRACE: the numbers of BODIES of the latest voice(), as they began (what stands left is worked out first), the first 30.")
  static void trace() {
    BoardKeep keep = one(44);
    Edge.is("none at first", 0, keep.count(6));
    keep.voice(1, STAYS, 5);
    Edge.is("six", 6, keep.count(6));
    Edge.is("the last began last", 10, keep.body(5));
    keep.voice(1, PARTS, 5);
    Edge.is("left first", 13, keep.body(1));
    Edge.is("then right", 11, keep.body(2));
    keep.voice(0, SQUEAKS, 5);
    Edge.is("of the latest alone", 1, keep.count(6));
    Edge.is("of another LINE", 10, keep.body(0));
    keep.voice(0, 4, 5);
    keep.voice(2, 0, 5);
    Edge.is("BEYOND is no latest one", 1, keep.count(6));
  }

  // ---- promise 25

  @Says(at = "P25", text = "BEYOND.")
  static void voiceBeyond() {
    Edge.within("voice", 0, 3, voice -> one(3).voice(1, voice, 1));
    Edge.within("line", 0, 1, line -> one(3).voice(line, 0, 1));
    Edge.within("line of ten", 0, 9, line -> Edge.full().voice(line, 0, 1));
    Edge.beyond("line of none", line -> new BoardKeep().voice(line, 0, 1), 0, 1, -1);
  }

  @Says(at = "P25", text = "A VOICE of a LINE: any number.")
  static void voiceAny() {
    BoardKeep keep = Edge.lines(0);
    for (int k = 1; k <= 6; k++) {
      Edge.is("any number", Due.LOW - k, keep.voice(0, SQUEAKS, Due.LOW - k));
      Edge.is("is no ERROR " + k, 0, keep.told(k));
    }
    BoardKeep gone = Edge.aged(20, 1);
    gone.wipe(0);
    Edge.is("of what is GONE", 7, gone.voice(0, SQUEAKS, 7));
  }

  @Says(at = "P25", text = "PARTED.")
  static void voiceParted() {
    for (int line = 0; line < 10; line++) {
      BoardKeep keep = Edge.full();
      for (int m = 0; m < 10; m++) {
        keep.become(line, m);
        int answer = keep.voice(line, PARTS, 20);
        Edge.is("k " + line + ", m " + m, m == line ? Due.PARTED : 20 / (m - line), answer);
      }
      Edge.is("once", 1, keep.told(6));
    }
  }

  // ---- promise 26

  @Says(at = "P26", text = "THE TRACE's i-th.")
  static void body() {
    BoardKeep keep = one(45);
    keep.voice(1, STAYS, 1);
    int[] trace = {51, 12, 11, 50, 20, 10};
    for (int i = 0; i < trace.length; i++) {
      Edge.is("body(" + i + ")", trace[i], keep.body(i));
    }
    Edge.is("the first again", 51, keep.body(0));
  }

  @Says(at = "P26", text = "NONE: there is none such.")
  static void bodyNone() {
    BoardKeep none = one(0);
    Edge.is("none at first", Due.NONE, none.body(0));
    BoardKeep keep = one(4);
    keep.voice(1, STAYS, 1);
    Edge.is("the first", 12, keep.body(0));
    Edge.is("the last", 10, keep.body(2));
    for (int i : new int[] {3, 4, 29, 30, 31, -1, Edge.MIN, Edge.MAX}) {
      Edge.is("body(" + i + ")", Due.NONE, keep.body(i));
    }
    Edge.is("never BEYOND", 0, keep.told(1));
    keep.voice(1, SQUEAKS, 1);
    Edge.is("a shorter one", Due.NONE, keep.body(1));
  }
}
