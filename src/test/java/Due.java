/** Counts the answers that are not as due, and tells them. */
final class Due {
  static final int LOW = -1000000000;
  static final int BEYOND = LOW - 1;
  static final int NONE = LOW - 2;
  static final int STATE = LOW - 3;
  static final int FULL = LOW - 4;
  static final int KIND = LOW - 5;
  static final int PARTED = LOW - 6;

  private final String test;
  private int asked = 0;
  private int wrong = 0;

  Due(String test) {
    this.test = test;
  }

  /** As no call may fail to end, a test that goes on for minutes is wrong, and is ended. */
  void watch() {
    Thread watching = new Thread(() -> {
      try {
        Thread.sleep(300_000);
      } catch (InterruptedException interrupted) {
        return;
      }
      System.out.println(test + ": a call doesn't end");
      Runtime.getRuntime().halt(1);
    });
    watching.setDaemon(true);
    watching.start();
  }

  void is(String what, long want, long got) {
    asked++;
    if (got != want) {
      wrong++;
      System.out.println(test + ": " + what + " answered " + got + ", due is " + want);
    }
  }

  int asked() {
    return asked;
  }

  int wrong() {
    return wrong;
  }

  /** Ends the program, with 1 if an answer was wrong. */
  void end() {
    System.out.println(test + ": " + asked + " answers, " + wrong + " not as due");
    System.exit(wrong == 0 ? 0 : 1);
  }

  /** Gives a text to THE TAPE, 8 bytes at most a call; what the last call answered. */
  static int feed(BoardKeep keep, String text) {
    int answer = 0;
    for (int from = 0; from < text.length(); from += 8) {
      int to = Math.min(text.length(), from + 8);
      long word = 0;
      for (int i = to - 1; i >= from; i--) {
        word = word << 8 | text.charAt(i) & 255;
      }
      answer = keep.feed(word, to - from);
    }
    return answer;
  }

  static int text(BoardKeep keep, int use, String text) {
    feed(keep, text);
    return keep.text(use);
  }
}
