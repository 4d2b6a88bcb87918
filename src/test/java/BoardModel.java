import java.math.BigInteger;
import java.util.ArrayDeque;
import java.util.ArrayList;
import java.util.Arrays;
import java.util.Deque;
import java.util.List;

/**
 * The document once more, as plainly as can be: thoughts go DAY by DAY on copies, TEXTS are cut apart anew
 * for each answer, KINDS are Java classes. Nothing of it is shared with the program that it is held against.
 */
final class BoardModel {
  static final class Error extends RuntimeException {
    final int k;

    Error(int k) {
      super(null, null, false, false);
      this.k = k;
    }
  }

  static final int BEYOND = 1;
  static final int NONE = 2;
  static final int STATE = 3;
  static final int FULL = 4;
  static final int KIND = 5;
  static final int PARTED = 6;

  /** What a KIND says and when it MAY GO; the tree of KINDS is the tree of these. */
  static class Line {
    List<Integer> trace;
    int k;
    int m;
    int age;
    int photo;
    int spirit;

    boolean may() { return age >= 7; }
    int back() { return Math.max(50 - 5 * age, 0) + m; }
    int squeaks(int x) { trace.add(10); return x + k; }
    int smears(int x) { trace.add(11); return squeaks(x) * 2; }
    int stays(int x) { trace.add(12); return smears(x) - m; }
    int parts(int x) {
      trace.add(13);
      if (m == k) throw new Error(PARTED);
      return x / (m - k);
    }
  }

  static class Sum extends Line {
    @Override boolean may() { return super.may() && age >= 7 * m; }
    @Override int back() { return super.back() + 20; }
    @Override int squeaks(int x) { trace.add(20); return super.squeaks(x) - 4; }
    @Override int parts(int x) { trace.add(21); return super.parts(x) + smears(1); }
  }

  static class Arrow extends Line {
    @Override boolean may() { return age >= 1; }
    @Override int back() { return super.back() / 2; }
    @Override int smears(int x) { trace.add(30); return 0 - super.smears(x); }
  }

  static class Green extends Line {
    @Override int back() { return super.back() + (photo == 1 ? 20 : 0); }
    @Override int stays(int x) { trace.add(40); return super.stays(x / 2); }
  }

  static class Framed extends Sum {
    @Override boolean may() { return m == 0 && super.may(); }
    @Override int back() { return super.back() + 20; }
    @Override int squeaks(int x) { trace.add(50); return super.squeaks(x) * 3; }
    @Override int stays(int x) { trace.add(51); return super.stays(x) ^ k; }
  }

  static class Boxed extends Arrow {
    @Override boolean may() { return super.may() && age >= m; }
    @Override int back() { return super.back() - m; }
    @Override int smears(int x) { trace.add(60); return super.smears(x + 1); }
  }

  static class Stain extends Line {
    @Override boolean may() { return super.may() && spirit == 1; }
    @Override int back() { return super.back() + 5; }
    @Override int squeaks(int x) { trace.add(70); return 9; }
    @Override int smears(int x) { trace.add(71); return super.smears(x) + m; }
  }

  static final Class<?>[] CLASSES = {Line.class, Sum.class, Arrow.class, Green.class, Framed.class, Boxed.class, Stain.class};

  static Line ofKind(int kind) {
    switch (kind) {
      case 1: return new Sum();
      case 2: return new Arrow();
      case 3: return new Green();
      case 4: return new Framed();
      case 5: return new Boxed();
      case 6: return new Stain();
      default: return new Line();
    }
  }

  /** All that an IMAGE keeps. */
  static final class State implements Cloneable {
    // Each LINE: kind, m, first, many, who, dated, photo, gone.
    List<int[]> lines = new ArrayList<>();
    int day = 0;
    int spirit = 0;
    int lost = 0;
    int[] ink = {40, 40, 40, 40, 40};
    int z = 1;
    String tape = "";
    List<Integer> waiting = new ArrayList<>();
    String[] texts = new String[2];

    State copy() {
      State other = new State();
      for (int[] line : lines) other.lines.add(line.clone());
      other.day = day;
      other.spirit = spirit;
      other.lost = lost;
      other.ink = ink.clone();
      other.z = z;
      other.tape = tape;
      other.waiting.addAll(waiting);
      other.texts = texts.clone();
      return other;
    }

    Line line(int i) {
      int[] told = lines.get(i);
      Line line = ofKind(told[0]);
      line.k = i;
      line.m = told[1];
      line.age = day - told[5];
      line.photo = told[6];
      line.spirit = spirit;
      line.trace = new ArrayList<>();
      return line;
    }

    boolean gone(int i) { return lines.get(i)[7] == 1; }
    boolean may(int i) { return !gone(i) && line(i).may(); }
    int back(int i) { return Math.min(100, Math.max(0, line(i).back())); }
    int loss(int i) { return law(0, back(i), lines.get(i)[1], lines.get(i)[6]); }

    int law(int use, int a, int b, int c) {
      long worth;
      if (texts[use] != null) worth = worth(texts[use], use, a, b, c);
      else if (use == 1) worth = (int) (10L * a);
      else worth = c == 1 ? a / 2 : a;
      return (int) (worth < 0 ? 0 : worth > 999 ? 999 : worth);
    }

    boolean on(int i, int column) {
      return !gone(i) && column >= lines.get(i)[2] && column < lines.get(i)[2] + lines.get(i)[3];
    }

    boolean taken(int column) {
      for (int i = 0; i < lines.size(); i++) if (on(i, column)) return true;
      return false;
    }

    int takenSet() {
      int set = 0;
      for (int column = 0; column < 12; column++) if (taken(column)) set += 1 << column;
      return set;
    }

    void dayGoesBy() {
      for (int p = 0; p < 5; p++) if (day % (p + 2) == 0 && ink[p] > 0) ink[p]--;
      day++;
    }

    void allGo() {
      boolean[] may = new boolean[lines.size()];
      for (int i = 0; i < may.length; i++) may[i] = may(i);
      for (int i = 0; i < may.length; i++) if (may[i]) lines.get(i)[7] = 1;
    }

    int wipe(int i) {
      int loss = loss(i);
      lines.get(i)[7] = 1;
      lost = Math.min(lost + loss, 99999);
      return loss;
    }

    int draw() {
      z = BigInteger.valueOf(z).multiply(BigInteger.valueOf(1103515245)).add(BigInteger.valueOf(12345)).intValue();
      return z >>> 8;
    }

    /** LOSS, first COLUMN, LINES of the ROOM of n, or null. */
    int[] room(int n) {
      int[] best = null;
      for (int first = 0; first <= 12 - n; first++) {
        int set = 0;
        boolean all = true;
        for (int i = 0; i < lines.size(); i++) {
          for (int column = first; column < first + n; column++) {
            if (on(i, column)) {
              set |= 1 << i;
              all &= may(i);
            }
          }
        }
        if (!all) continue;
        int loss = 0;
        for (int i = 0; i < lines.size(); i++) if ((set >> i & 1) == 1) loss += loss(i);
        if (best == null || loss < best[0]) best = new int[] {loss, first, set};
      }
      return best;
    }
  }

  // ---- texts, by cutting them at the sign that binds least

  static final String[] NAMES = {"bmp", "fdw"};

  static int worth(String text, int use, int a, int b, int c) {
    for (String signs : new String[] {"|", "&", "<=>", "+-", "*/%"}) {
      int open = 0;
      for (int i = text.length() - 1; i >= 0; i--) {
        char sign = text.charAt(i);
        if (sign == ')') open++;
        if (sign == '(') open--;
        if (open == 0 && signs.indexOf(sign) >= 0) {
          int left = worth(text.substring(0, i), use, a, b, c);
          int right = worth(text.substring(i + 1), use, a, b, c);
          return joined(left, sign, right);
        }
      }
    }
    char first = text.charAt(0);
    if (first == '!') return worth(text.substring(1), use, a, b, c) == 0 ? 1 : 0;
    if (first == '(') return worth(text.substring(1, text.length() - 1), use, a, b, c);
    int name = NAMES[use].indexOf(first);
    if (name >= 0) return new int[] {a, b, c}[name];
    return Integer.parseInt(text);
  }

  static int joined(int left, char sign, int right) {
    switch (sign) {
      case '|': return (left != 0) | (right != 0) ? 1 : 0;
      case '&': return (left != 0) & (right != 0) ? 1 : 0;
      case '<': return left < right ? 1 : 0;
      case '=': return left == right ? 1 : 0;
      case '>': return left > right ? 1 : 0;
      case '+': return (int) ((long) left + right);
      case '-': return (int) ((long) left - right);
      case '*': return (int) ((long) left * right);
      case '/': return right == 0 ? 0 : (int) ((long) left / right);
      default: return right == 0 ? 0 : (int) ((long) left % right);
    }
  }

  /** The FAULT of a text, or -1: sign by sign, with a stack of what is open. */
  static int fault(String text, int use) {
    Deque<Character> open = new ArrayDeque<>();
    Deque<Boolean> compared = new ArrayDeque<>();
    compared.push(false);
    boolean wanted = true;
    int digits = 0;
    for (int i = 0; i < text.length(); i++) {
      char sign = text.charAt(i);
      boolean digit = sign >= '0' && sign <= '9';
      if (wanted) {
        if (sign == '!' || sign == '(') {
          if (open.size() == 5) return i;
          open.push(sign);
          if (sign == '(') compared.push(false);
          continue;
        }
        if (!digit && NAMES[use].indexOf(sign) < 0) return i;
        digits = digit ? 1 : 0;
        wanted = false;
        while (!open.isEmpty() && open.peek() == '!') open.pop();
      } else if (digit && digits > 0 && digits < 4) {
        digits++;
      } else if (sign == ')' && !open.isEmpty()) {
        open.pop();
        compared.pop();
        digits = 0;
        while (!open.isEmpty() && open.peek() == '!') open.pop();
      } else if ("|&".indexOf(sign) >= 0) {
        compared.pop();
        compared.push(false);
        wanted = true;
      } else if ("<=>".indexOf(sign) >= 0 && !compared.peek()) {
        compared.pop();
        compared.push(true);
        wanted = true;
      } else if ("+-*/%".indexOf(sign) >= 0) {
        wanted = true;
      } else {
        return i;
      }
    }
    return wanted || !open.isEmpty() ? text.length() : -1;
  }

  // ---- the calls

  State now = new State();
  State image = null;
  int images = 0;
  long[][] sheets = new long[4][];
  int[] bits = new int[4];
  List<Integer> trace = new ArrayList<>();
  int[] told = new int[7];

  /** What a call answers: by its name's place in ModelTest's CALLS, and what is given to it. */
  long call(String name, long... given) {
    int[] g = new int[5];
    for (int i = 0; i < given.length; i++) g[i] = (int) given[i];
    try {
      switch (name) {
        case "feed": return feed(given[0], g[1]);
        case "write": return write(g[0], g[1], g[2], g[3]);
        case "lineIs": return lineIs(g[0], g[1]);
        case "become": case "as": case "photo": case "wipe": return lineCall(name, g[0], g[1]);
        case "pen": case "spirit": case "seed": case "tell": case "check": return smallCall(name, g[0], g[1]);
        case "text": case "untell": case "law": return textCall(name, g[0], g[1], g[2], g[3]);
        case "days": case "loose": return dayCall(name, g[0]);
        case "free": case "of": case "room": return isCall(name, g[0], g[1]);
        case "when": case "clears": case "odds": return wouldCall(name, g[0], g[1]);
        case "voice": case "body": return voiceCall(name, g[0], g[1], g[2]);
        case "sheet": return sheet(g[0], g[1], g[2]);
        case "move": return move(g[0], g[1], g[2], g[3], g[4]);
        case "put": case "parts": case "fits": case "dates": case "judge": return sheetCall(name, g[0], g[1], g[2]);
        default: return restCall(name, g[0]);
      }
    } catch (Error error) {
      told[error.k]++;
      return -1000000000L - error.k;
    }
  }

  private static void ask(boolean right, int k) {
    if (!right) throw new Error(k);
  }

  private static void in(int v, int least, int most) {
    ask(v >= least && v <= most, BEYOND);
  }

  private void line(int i) {
    in(i, 0, now.lines.size() - 1);
  }

  private long feed(long word, int n) {
    in(n, 1, 8);
    ask(now.tape.length() + n <= 60, FULL);
    for (int i = 0; i < n; i++) {
      now.tape += (char) (word & 0xFF);
      word >>= 8;
    }
    return now.tape.length();
  }

  private long write(int km, int ab, int who, int pen) {
    in(km, 0, 69);
    ask(ab >= 0, BEYOND);
    int first = ab / 100;
    int many = ab - 100 * first;
    in(many, 1, 12);
    in(first, 0, 12 - many);
    in(who, 0, 5);
    in(pen, 0, 4);
    ask(now.lines.size() < 10, FULL);
    for (int column = first; column < first + many; column++) ask(!now.taken(column), STATE);
    ask(now.ink[pen] >= many, STATE);
    now.ink[pen] -= many;
    now.lines.add(new int[] {km / 10, km % 10, first, many, who, now.day, 0, 0});
    return now.lines.size() - 1;
  }

  private long lineIs(int i, int what) {
    line(i);
    in(what, 0, 9);
    int[] told = now.lines.get(i);
    int set = 0;
    for (int column = told[2]; column < told[2] + told[3]; column++) set |= 1 << column;
    int[] answers = {told[0], told[1], set, told[4], told[5], told[6], told[7], now.may(i) ? 1 : 0, now.back(i), now.loss(i)};
    return answers[what];
  }

  private long lineCall(String name, int i, int v) {
    line(i);
    int[] told = now.lines.get(i);
    if (name.equals("wipe")) {
      ask(now.may(i), STATE);
      return now.wipe(i);
    }
    if (name.equals("photo")) {
      in(v, 0, 1);
      int was = told[6];
      told[6] = v;
      return was;
    }
    if (name.equals("become")) {
      in(v, 0, 69);
      int was = told[0];
      told[0] = v / 10;
      told[1] = v % 10;
      return was;
    }
    in(v, 0, 6);
    ask(CLASSES[v].isInstance(now.line(i)), KIND);
    return told[1];
  }

  private long smallCall(String name, int a, int b) {
    int was;
    switch (name) {
      case "pen":
        in(a, 0, 4);
        in(b, 0, 99);
        was = now.ink[a];
        now.ink[a] = b;
        return was;
      case "spirit":
        in(a, 0, 1);
        was = now.spirit;
        now.spirit = a;
        return was;
      case "seed":
        was = now.z;
        now.z = a;
        return was;
      case "tell":
        ask(now.waiting.size() < 24, FULL);
        now.waiting.add(a);
        return now.waiting.size();
      default:
        List<Integer> waited = now.waiting;
        now.waiting = new ArrayList<>();
        for (int i = 0; i < waited.size(); i++) if (i > 4 || now.ink[i] != waited.get(i)) return 1 + i;
        return 0;
    }
  }

  private long textCall(String name, int use, int a, int b, int c) {
    in(use, 0, 1);
    if (name.equals("law")) return now.law(use, a, b, c);
    boolean was = now.texts[use] != null;
    if (name.equals("untell")) {
      now.texts[use] = null;
      return was ? 1 : 0;
    }
    String text = now.tape;
    now.tape = "";
    int fault = fault(text, use);
    if (fault >= 0) return -10 - fault;
    now.texts[use] = text;
    return 1;
  }

  private long dayCall(String name, int n) {
    in(n, 1, name.equals("days") ? 90 : 30);
    ask(now.day + n <= 9999, STATE);
    int wiped = 0;
    for (int day = 0; day < n; day++) {
      if (name.equals("loose")) wiped += draws();
      now.dayGoesBy();
    }
    return name.equals("days") ? now.day : wiped;
  }

  private int draws() {
    int wiped = 0;
    if (!now.lines.isEmpty()) {
      int i = now.draw() % now.lines.size();
      if (now.may(i)) {
        now.wipe(i);
        wiped = 1;
      }
    }
    int column = now.draw() % 12;
    if (!now.taken(column) && now.lines.size() < 10) {
      int kind = now.draw() % 7;
      int who = now.draw() % 6;
      now.lines.add(new int[] {kind, 0, column, 1, who, now.day, 0, 0});
    }
    return wiped;
  }

  private long isCall(String name, int a, int what) {
    if (name.equals("room")) {
      in(a, 1, 12);
      in(what, 0, 3);
      int[] room = now.room(a);
      ask(room != null, NONE);
      return what < 3 ? room[what] : now.law(1, a, now.day % 7, Integer.bitCount(room[2]));
    }
    if (name.equals("of")) {
      in(a, 0, 5);
      int many = 0;
      for (int[] told : now.lines) if (told[4] == a && told[7] == 0) many += told[3];
      return many;
    }
    in(a, 0, 3);
    int free = 0;
    int longest = 0;
    int where = -1;
    int run = 0;
    for (int column = 0; column < 12; column++) {
      run = now.taken(column) ? 0 : run + 1;
      if (run > 0) free++;
      if (run > longest) {
        longest = run;
        where = column - run + 1;
      }
    }
    ask(a < 3 || longest > 0, NONE);
    return new int[] {now.takenSet(), free, longest, where}[a];
  }

  private long wouldCall(String name, int a, int b) {
    if (name.equals("odds")) return odds(a, b);
    State thought = now.copy();
    if (name.equals("clears")) {
      in(a, 0, 90);
      for (int day = 0; day < a; day++) {
        thought.allGo();
        thought.day++;
      }
      return thought.takenSet();
    }
    in(a, 1, 12);
    in(b, 0, 1);
    for (int behind = 0; behind <= 90; behind++) {
      int[] room = thought.room(a);
      if (room != null) return b == 0 ? behind : room[1];
      thought.day++;
    }
    throw new Error(NONE);
  }

  private long odds(int set, int part) {
    in(part, 0, 1);
    ask(set >= 0 && set < 1 << now.lines.size() && Integer.bitCount(set) <= 4, BEYOND);
    BigInteger above = BigInteger.ONE;
    BigInteger below = BigInteger.ONE;
    for (int i = 0; i < now.lines.size(); i++) {
      if ((set >> i & 1) == 1) {
        above = above.multiply(BigInteger.valueOf(100 - now.back(i)));
        below = below.multiply(BigInteger.valueOf(100));
      }
    }
    BigInteger shared = above.gcd(below);
    return (part == 0 ? above : below).divide(shared).longValue();
  }

  private long voiceCall(String name, int a, int voice, int x) {
    if (name.equals("body")) {
      ask(a >= 0 && a < trace.size(), NONE);
      return trace.get(a);
    }
    line(a);
    in(voice, 0, 3);
    Line line = now.line(a);
    trace = line.trace;
    switch (voice) {
      case 0: return line.squeaks(x);
      case 1: return line.smears(x);
      case 2: return line.stays(x);
      default: return line.parts(x);
    }
  }

  private long sheet(int sheet, int wide, int n) {
    in(sheet, 0, 3);
    ask(Arrays.asList(0, 8, 16, 32).contains(wide), BEYOND);
    if (wide == 0) {
      sheets[sheet] = null;
      return 1;
    }
    ask(n >= 0, STATE);
    ask(n <= 24, BEYOND);
    sheets[sheet] = new long[n];
    bits[sheet] = wide;
    return 1;
  }

  private long move(int from, int i, int to, int j, int n) {
    in(from, 0, 3);
    in(to, 0, 3);
    ask(sheets[from] != null && sheets[to] != null, NONE);
    ask(bits[from] == bits[to], KIND);
    ask(n >= 0 && i >= 0 && j >= 0, BEYOND);
    ask((long) i + n <= sheets[from].length && (long) j + n <= sheets[to].length, BEYOND);
    long[] were = sheets[from].clone();
    for (int at = 0; at < n; at++) sheets[to][j + at] = were[i + at];
    return n;
  }

  private long sheetCall(String name, int sheet, int i, int v) {
    in(sheet, 0, 3);
    ask(sheets[sheet] != null, NONE);
    long[] row = sheets[sheet];
    int at = 0;
    switch (name) {
      case "put":
        in(i, 0, row.length - 1);
        row[i] = (long) v << (64 - bits[sheet]) >> (64 - bits[sheet]);
        return 1;
      case "dates":
        for (; at < row.length && at < now.lines.size() && row[at] >= 0 && row[at] <= now.day; at++) {
          now.lines.get(at)[5] = (int) row[at];
        }
        return at;
      case "judge":
        for (; at < row.length && at < now.lines.size() && row[at] == now.back(at); at++);
        return at;
      case "parts":
        ask(row.length <= 6, NONE);
        for (long want : row) ask(want >= 1 && want <= 12, STATE);
        return most(row, 0, now.takenSet());
      default:
        ask(row.length <= 12, NONE);
        return fits(row);
    }
  }

  /** All ways to serve the wants from number i on, or not to. */
  private static int most(long[] wants, int i, int taken) {
    if (i == wants.length) return 0;
    int most = most(wants, i + 1, taken);
    int want = (int) wants[i];
    for (int first = 0; first + want <= 12; first++) {
      int columns = ((1 << want) - 1) << first;
      if ((taken & columns) == 0) most = Math.max(most, 1 + most(wants, i + 1, taken | columns));
    }
    return most;
  }

  private long fits(long[] row) {
    State thought = now.copy();
    for (int behind = 0; behind <= 90; behind++) {
      boolean so = true;
      for (int column = 0; column < row.length; column++) so &= row[column] == (thought.taken(column) ? 1 : 0);
      if (so) return behind;
      thought.allGo();
      thought.day++;
    }
    throw new Error(NONE);
  }

  private long restCall(String name, int a) {
    switch (name) {
      case "image":
        image = now.copy();
        return ++images;
      case "restore":
        ask(image != null, NONE);
        now = image.copy();
        return now.day;
      case "told":
        in(a, 1, 6);
        return told[a];
      case "count":
        in(a, 0, 7);
        int[] counts = {
          now.lines.size(), now.day, now.spirit, now.lost, now.tape.length(), now.waiting.size(), trace.size(), now.z};
        return counts[a];
      default:
        throw new IllegalStateException("no call " + name);
    }
  }
}
