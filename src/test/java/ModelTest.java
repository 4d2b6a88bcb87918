import java.util.Arrays;
import java.util.Random;

/** Long runs of drawn calls, each answer held against BoardModel's. The seed of each run is its number. */
public final class ModelTest {
  private static final int RUNS = 12000;
  private static final int MOST_CALLS = 490;
  private static final String[] CALLS = {
    "write", "lineIs", "become", "as", "photo", "wipe", "pen", "spirit", "feed", "text", "untell", "law", "days", "loose", "seed",
    "free", "of", "room", "when", "clears", "parts", "odds", "fits", "voice", "body", "sheet", "put", "move", "dates", "judge",
    "image", "restore", "tell", "check", "count", "told"};
  private static final int[] EDGES = {
    Integer.MIN_VALUE, Integer.MIN_VALUE + 1, -1000000001, -1000, -100, -2, -1, 0, 1, 7, 12, 13, 24, 25, 60, 70, 91, 99, 100, 1212,
    65536, 1 << 30, Integer.MAX_VALUE - 1, Integer.MAX_VALUE};
  private static final String[] TEXTS = {
    "b", "b*2-m", "b+p*5", "!p*b", "(b|m)&p", "b/m", "b%m+p", "b>30&m<5", "999", "f*f", "f*10-w*3", "d=0|w>1", "(f-w)*(7-d)",
    "f", "d", "w", "m", "p", "1+(2*(b-!m))", "0-b", "m*100", "f%3+d/2"};

  private final Random random;
  private final BoardKeep keep = new BoardKeep();
  private final BoardModel model = new BoardModel();

  private ModelTest(int run) {
    random = new Random(run);
  }

  public static void main(String[] args) {
    Due due = new Due("ModelTest");
    due.watch();
    for (int run = 0; run < RUNS; run++) {
      new ModelTest(run).go(due, run);
    }
    due.end();
  }

  private void go(Due due, int run) {
    int done = 0;
    // Most runs are short: a board that is full of LINES tells little more.
    int calls = random.nextInt(8) == 0 ? MOST_CALLS : 20 + random.nextInt(120);
    while (done < calls) {
      int way = random.nextInt(60);
      if (way < 8) {
        done += way < 5 ? tell(due, run, done) : sheet(due, run, done);
        continue;
      }
      String name = CALLS[random.nextInt(CALLS.length)];
      if (random.nextInt(4) == 0) {
        name = new String[] {"write", "days", "put", "voice", "sheet", "wipe"}[random.nextInt(6)];
      }
      done += ask(due, run, done, name, given(name));
    }
  }

  private int ask(Due due, int run, int done, String name, long... given) {
    long want = model.call(name, given);
    due.is("run " + run + " call " + done + " " + name + Arrays.toString(given), want, answer(keep, name, given));
    return 1;
  }

  /** Feeds a whole text, right or nearly so, and reads it. */
  private int tell(Due due, int run, int done) {
    StringBuilder text = new StringBuilder(TEXTS[random.nextInt(TEXTS.length)]);
    for (int times = random.nextInt(3); times > 0; times--) {
      String signs = "|&<=>+-*/%!()0123456789bmpfdw";
      text.insert(random.nextInt(text.length() + 1), signs.charAt(random.nextInt(signs.length())));
    }
    int calls = 0;
    for (int from = 0; from < text.length(); from += 8) {
      int n = Math.min(8, text.length() - from);
      long word = random.nextLong();
      for (int i = n - 1; i >= 0; i--) {
        word = word << 8 | text.charAt(from + i);
      }
      calls += ask(due, run, done + calls, "feed", word, n);
    }
    return calls + ask(due, run, done + calls, "text", random.nextInt(2));
  }

  /** Fills a SHEET with wants, or with what a later DAY could be like, and asks of it. */
  private int sheet(Due due, int run, int done) {
    boolean wants = random.nextBoolean();
    int n = random.nextInt(wants ? 7 : 13);
    int most = 1 + random.nextInt(6);
    long set = model.call("clears", random.nextInt(91));
    int sheet = random.nextInt(4);
    ask(due, run, done, "sheet", sheet, 8 << random.nextInt(3), n);
    for (int i = 0; i < n; i++) {
      ask(due, run, done + 1 + i, "put", sheet, i, wants ? 1 + random.nextInt(most) : set >> i & 1);
    }
    ask(due, run, done + 1 + n, wants ? "parts" : "fits", sheet);
    return n + 2;
  }

  private int any() {
    return random.nextBoolean() ? EDGES[random.nextInt(EDGES.length)] : random.nextInt();
  }

  /** Mostly least to most, at times one beside it, at times any number. */
  private int in(int least, int most) {
    int way = random.nextInt(40);
    if (way == 0) {
      return any();
    }
    return way == 1 ? least - 1 : way == 2 ? most + 1 : least + random.nextInt(most - least + 1);
  }

  private int line() {
    return in(0, Math.max(0, (int) model.now.lines.size() - 1));
  }

  private int number() {
    int way = random.nextInt(6);
    if (way == 0) {
      return any();
    }
    if (way == 1 && !model.now.lines.isEmpty()) {
      return model.now.back(random.nextInt(model.now.lines.size()));
    }
    return random.nextInt(way < 4 ? 2 : Math.max(13, model.now.day + 1));
  }

  private long[] given(String name) {
    switch (name) {
      case "write": return new long[] {in(0, 69), 100 * in(0, 11) + in(1, random.nextInt(12) + 1), in(0, 5), in(0, 4)};
      case "lineIs": return new long[] {line(), in(0, 9)};
      case "become": return new long[] {line(), in(0, 69)};
      case "as": return new long[] {line(), in(0, 6)};
      case "photo": return new long[] {line(), in(0, 1)};
      case "wipe": return new long[] {line()};
      case "pen": return new long[] {in(0, 4), in(0, 99)};
      case "spirit": case "text": case "untell": return new long[] {in(0, 1)};
      case "feed": return new long[] {random.nextLong(), in(1, 8)};
      case "law": return new long[] {in(0, 1), number(), number(), number()};
      case "days": return new long[] {random.nextInt(3) == 0 ? in(1, 90) : in(1, 9)};
      case "loose": return new long[] {in(1, 30)};
      case "seed": case "tell": return new long[] {random.nextInt(3) == 0 ? 40 : any()};
      case "free": return new long[] {in(0, 3)};
      case "of": return new long[] {in(0, 5)};
      case "room": return new long[] {in(1, 12), in(0, 3)};
      case "when": return new long[] {in(1, 12), in(0, 1)};
      case "clears": return new long[] {in(0, random.nextBoolean() ? 90 : 9)};
      case "odds": return new long[] {in(0, (1 << model.now.lines.size()) - 1), in(0, 1)};
      case "voice": return new long[] {line(), in(0, 3), number()};
      case "body": return new long[] {in(0, 5)};
      case "sheet": return new long[] {in(0, 3), 8 * in(0, 4), in(0, random.nextBoolean() ? 24 : 6)};
      case "put": return new long[] {in(0, 3), in(0, 6), number()};
      case "move": return new long[] {in(0, 3), in(0, 9), in(0, 3), in(0, 9), in(0, 9)};
      case "parts": case "fits": case "dates": case "judge": return new long[] {in(0, 3)};
      case "count": return new long[] {in(0, 7)};
      case "told": return new long[] {in(1, 6)};
      default: return new long[0];
    }
  }

  private static long answer(BoardKeep keep, String name, long[] given) {
    int[] g = new int[5];
    for (int i = 0; i < given.length; i++) {
      g[i] = (int) given[i];
    }
    switch (name) {
      case "write": return keep.write(g[0], g[1], g[2], g[3]);
      case "lineIs": return keep.lineIs(g[0], g[1]);
      case "become": return keep.become(g[0], g[1]);
      case "as": return keep.as(g[0], g[1]);
      case "photo": return keep.photo(g[0], g[1]);
      case "wipe": return keep.wipe(g[0]);
      case "pen": return keep.pen(g[0], g[1]);
      case "spirit": return keep.spirit(g[0]);
      case "feed": return keep.feed(given[0], g[1]);
      case "text": return keep.text(g[0]);
      case "untell": return keep.untell(g[0]);
      case "law": return keep.law(g[0], g[1], g[2], g[3]);
      case "days": return keep.days(g[0]);
      case "loose": return keep.loose(g[0]);
      case "seed": return keep.seed(g[0]);
      case "free": return keep.free(g[0]);
      case "of": return keep.of(g[0]);
      case "room": return keep.room(g[0], g[1]);
      case "when": return keep.when(g[0], g[1]);
      case "clears": return keep.clears(g[0]);
      case "parts": return keep.parts(g[0]);
      case "odds": return keep.odds(g[0], g[1]);
      case "fits": return keep.fits(g[0]);
      case "voice": return keep.voice(g[0], g[1], g[2]);
      case "body": return keep.body(g[0]);
      case "sheet": return keep.sheet(g[0], g[1], g[2]);
      case "put": return keep.put(g[0], g[1], g[2]);
      case "move": return keep.move(g[0], g[1], g[2], g[3], g[4]);
      case "dates": return keep.dates(g[0]);
      case "judge": return keep.judge(g[0]);
      case "image": return keep.image();
      case "restore": return keep.restore();
      case "tell": return keep.tell(g[0]);
      case "check": return keep.check();
      case "count": return keep.count(g[0]);
      case "told": return keep.told(g[0]);
      default: throw new IllegalStateException("no call " + name);
    }
  }
}
