/** A white board with what may be wiped from it, when, and at what loss; ../shared/DOC.md says what is due. */
public final class BoardKeep {
  private static final int LOW = -1000000000;
  private static final int BEYOND = 1;
  private static final int NONE = 2;
  private static final int STATE = 3;
  private static final int FULL = 4;
  private static final int KIND = 5;
  private static final int PARTED = 6;

  private static final int COLUMNS = 12;
  private static final int MOST_LINES = 10;
  private static final int KINDS = 7;
  private static final int PEOPLE = 6;
  private static final int PENS = 5;
  private static final int USES = 2;
  private static final int SHEETS = 4;
  private static final int LAST_DAY = 9999;
  private static final int MOST_LOST = 99999;
  private static final int MOST_BY_LAW = 999;
  private static final int FORESIGHT = 90;

  private static final int LINE = 0;
  private static final int SUM = 1;
  private static final int ARROW = 2;
  private static final int GREEN = 3;
  private static final int FRAMED = 4;
  private static final int BOXED = 5;
  private static final int STAIN = 6;
  private static final int NO_KIND = -1;
  private static final int[] KIND_ABOVE = {NO_KIND, LINE, LINE, LINE, SUM, ARROW, LINE};

  private static final int LOSS = 0;
  private static final int GAIN = 1;

  // Above every number of DAYS that is asked for, and far from where an int wraps.
  private static final int NEVER = 1000000;

  private final Board board = new Board();
  private final Board kept = new Board();
  private int images;
  private final Reader reader = new Reader();
  private final Room found = new Room();
  private final Parting parting = new Parting();
  private final Voices voices = new Voices();
  private final Sheet[] sheets = new Sheet[SHEETS];
  private final int[] errors = new int[PARTED + 1];

  public BoardKeep() {
    for (int i = 0; i < SHEETS; i++) {
      sheets[i] = new Sheet();
    }
  }

  // ---- lines

  public int write(int km, int ab, int who, int pen) {
    int first = ab / 100;
    int many = ab % 100;
    if (!isKm(km) || !isIn(first, 0, COLUMNS - 1) || !isIn(many, 1, COLUMNS - first)) {
      return error(BEYOND);
    }
    if (!isIn(who, 0, PEOPLE - 1) || !isIn(pen, 0, PENS - 1)) {
      return error(BEYOND);
    }
    if (board.many >= MOST_LINES) {
      return error(FULL);
    }
    int columns = columnsFrom(first, many);
    if ((board.taken() & columns) != 0 || board.ink[pen] < many) {
      return error(STATE);
    }
    board.ink[pen] -= many;
    return board.addLine(km / 10, km % 10, columns, who);
  }

  public int lineIs(int line, int what) {
    if (!board.hasLine(line)) {
      return error(BEYOND);
    }
    Line asked = board.lines[line];
    switch (what) {
      case 0: return asked.kind;
      case 1: return asked.m;
      case 2: return asked.columns;
      case 3: return asked.who;
      case 4: return asked.dated;
      case 5: return asked.photo;
      case 6: return asked.gone ? 1 : 0;
      case 7: return board.mayGo(line, board.day) ? 1 : 0;
      case 8: return asked.back(board.day);
      case 9: return board.lossOf(line, board.day);
      default: return error(BEYOND);
    }
  }

  public int become(int line, int km) {
    if (!board.hasLine(line) || !isKm(km)) {
      return error(BEYOND);
    }
    Line changed = board.lines[line];
    int was = changed.kind;
    changed.kind = km / 10;
    changed.m = km % 10;
    return was;
  }

  public int as(int line, int kind) {
    if (!board.hasLine(line) || !isIn(kind, 0, KINDS - 1)) {
      return error(BEYOND);
    }
    Line asked = board.lines[line];
    return isUnder(asked.kind, kind) ? asked.m : error(KIND);
  }

  public int photo(int line, int is) {
    if (!board.hasLine(line) || !isIn(is, 0, 1)) {
      return error(BEYOND);
    }
    int was = board.lines[line].photo;
    board.lines[line].photo = is;
    return was;
  }

  public int wipe(int line) {
    if (!board.hasLine(line)) {
      return error(BEYOND);
    }
    return board.mayGo(line, board.day) ? board.wipeLine(line) : error(STATE);
  }

  public int pen(int pen, int v) {
    if (!isIn(pen, 0, PENS - 1) || !isIn(v, 0, 99)) {
      return error(BEYOND);
    }
    int was = board.ink[pen];
    board.ink[pen] = v;
    return was;
  }

  public int spirit(int is) {
    if (!isIn(is, 0, 1)) {
      return error(BEYOND);
    }
    int was = board.spirit;
    board.spirit = is;
    return was;
  }

  // ---- texts

  public int feed(long word, int n) {
    if (!isIn(n, 1, 8)) {
      return error(BEYOND);
    }
    if (!board.tape.hasRoomFor(n)) {
      return error(FULL);
    }
    for (int i = 0; i < n; i++) {
      board.tape.add((int) (word >>> (8 * i)) & 255);
    }
    return board.tape.many;
  }

  public int text(int use) {
    if (!isIn(use, 0, USES - 1)) {
      return error(BEYOND);
    }
    boolean isText = reader.reads(board.tape, use);
    board.tape.clear();
    if (!isText) {
      return -10 - reader.at;
    }
    board.laws[use].take(reader.code);
    return 1;
  }

  public int untell(int use) {
    if (!isIn(use, 0, USES - 1)) {
      return error(BEYOND);
    }
    boolean was = board.laws[use].there;
    board.laws[use].there = false;
    return was ? 1 : 0;
  }

  public int law(int use, int a, int b, int c) {
    return isIn(use, 0, USES - 1) ? board.lawGives(use, a, b, c) : error(BEYOND);
  }

  // ---- days

  public int days(int n) {
    if (!isIn(n, 1, FORESIGHT)) {
      return error(BEYOND);
    }
    if (board.day + n > LAST_DAY) {
      return error(STATE);
    }
    for (int i = 0; i < n; i++) {
      board.passDay();
    }
    return board.day;
  }

  public int loose(int n) {
    if (!isIn(n, 1, 30)) {
      return error(BEYOND);
    }
    if (board.day + n > LAST_DAY) {
      return error(STATE);
    }
    int wiped = 0;
    for (int i = 0; i < n; i++) {
      wiped += board.passDayByDraws();
    }
    return wiped;
  }

  public int seed(int v) {
    int was = board.z;
    board.z = v;
    return was;
  }

  // ---- what is, what would be

  public int free(int what) {
    int taken = board.taken();
    switch (what) {
      case 0: return taken;
      case 1: return COLUMNS - Integer.bitCount(taken);
      case 2: return longestFree(taken);
      case 3: {
        int longest = longestFree(taken);
        return longest == 0 ? error(NONE) : freeEnd(taken, 0, longest) - longest;
      }
      default: return error(BEYOND);
    }
  }

  public int of(int who) {
    return isIn(who, 0, PEOPLE - 1) ? Integer.bitCount(board.columnsOf(who)) : error(BEYOND);
  }

  public int room(int n, int what) {
    if (!isIn(n, 1, COLUMNS) || !isIn(what, 0, 3)) {
      return error(BEYOND);
    }
    if (!found.seek(board, n, board.day)) {
      return error(NONE);
    }
    switch (what) {
      case 0: return found.loss;
      case 1: return found.first;
      case 2: return found.lines;
      default: return board.lawGives(GAIN, n, board.day % 7, Integer.bitCount(found.lines));
    }
  }

  public int when(int n, int what) {
    if (!isIn(n, 1, COLUMNS) || !isIn(what, 0, 1)) {
      return error(BEYOND);
    }
    int behind = found.firstBehind(board, n);
    if (behind > FORESIGHT || !found.seek(board, n, board.day + behind)) {
      return error(NONE);
    }
    return what == 0 ? behind : found.first;
  }

  public int clears(int n) {
    return isIn(n, 0, FORESIGHT) ? board.takenBehind(n) : error(BEYOND);
  }

  public int parts(int sheet) {
    if (!isIn(sheet, 0, SHEETS - 1)) {
      return error(BEYOND);
    }
    Sheet wanted = sheets[sheet];
    if (wanted.isMissing() || wanted.row.many > Parting.MOST_WANTS) {
      return error(NONE);
    }
    for (int i = 0; i < wanted.row.many; i++) {
      if (!isIn(wanted.row.cells[i], 1, COLUMNS)) {
        return error(STATE);
      }
    }
    return parting.most(wanted.row, board.taken());
  }

  public long odds(int set, int part) {
    if (set < 0 || set >> board.many != 0 || Integer.bitCount(set) > 4 || !isIn(part, 0, 1)) {
      return error(BEYOND);
    }
    long above = 1;
    long below = 1;
    for (int i = 0; i < board.many; i++) {
      if (isOf(i, set)) {
        above *= 100 - board.lines[i].back(board.day);
        below *= 100;
      }
    }
    long shared = sharedDivisor(above, below);
    if (shared == 0) {
      shared = 1;
    }
    return part == 0 ? above / shared : below / shared;
  }

  public int fits(int sheet) {
    if (!isIn(sheet, 0, SHEETS - 1)) {
      return error(BEYOND);
    }
    if (sheets[sheet].isMissing() || sheets[sheet].row.many > COLUMNS) {
      return error(NONE);
    }
    for (int behind = 0; behind <= FORESIGHT; behind++) {
      if (isSet(sheets[sheet].row, board.takenBehind(behind))) {
        return behind;
      }
    }
    return error(NONE);
  }

  // ---- voices, sheets, images, what is told

  public int voice(int line, int voice, int x) {
    if (!board.hasLine(line) || !isIn(voice, 0, Voices.MANY - 1)) {
      return error(BEYOND);
    }
    int said = voices.say(board.lines[line], line, voice, x);
    return voices.parted ? error(PARTED) : said;
  }

  public int body(int i) {
    return isIn(i, 0, voices.trace.many - 1) ? voices.trace.cells[i] : error(NONE);
  }

  public int sheet(int sheet, int bits, int n) {
    if (!isIn(sheet, 0, SHEETS - 1) || (bits != 0 && bits != 8 && bits != 16 && bits != 32)) {
      return error(BEYOND);
    }
    if (bits != 0 && n < 0) {
      return error(STATE);
    }
    if (bits != 0 && n > Sheet.MOST) {
      return error(BEYOND);
    }
    sheets[sheet].begin(bits, bits == 0 ? 0 : n);
    return 1;
  }

  public int put(int sheet, int i, int v) {
    if (!isIn(sheet, 0, SHEETS - 1)) {
      return error(BEYOND);
    }
    if (sheets[sheet].isMissing()) {
      return error(NONE);
    }
    if (!isIn(i, 0, sheets[sheet].row.many - 1)) {
      return error(BEYOND);
    }
    sheets[sheet].row.cells[i] = sheets[sheet].lowestBits(v);
    return 1;
  }

  public int move(int sheet, int i, int other, int j, int n) {
    if (!isIn(sheet, 0, SHEETS - 1) || !isIn(other, 0, SHEETS - 1)) {
      return error(BEYOND);
    }
    Sheet from = sheets[sheet];
    Sheet to = sheets[other];
    if (from.isMissing() || to.isMissing()) {
      return error(NONE);
    }
    if (from.bits != to.bits) {
      return error(KIND);
    }
    if (!from.row.stands(i, n) || !to.row.stands(j, n)) {
      return error(BEYOND);
    }
    System.arraycopy(from.row.cells, i, to.row.cells, j, n);
    return n;
  }

  public int dates(int sheet) {
    if (!isIn(sheet, 0, SHEETS - 1)) {
      return error(BEYOND);
    }
    if (sheets[sheet].isMissing()) {
      return error(NONE);
    }
    Row row = sheets[sheet].row;
    for (int i = 0; i < row.many; i++) {
      if (!board.hasLine(i) || !isIn(row.cells[i], 0, board.day)) {
        return i;
      }
      board.lines[i].dated = row.cells[i];
    }
    return row.many;
  }

  public int judge(int sheet) {
    if (!isIn(sheet, 0, SHEETS - 1)) {
      return error(BEYOND);
    }
    if (sheets[sheet].isMissing()) {
      return error(NONE);
    }
    Row row = sheets[sheet].row;
    for (int i = 0; i < row.many; i++) {
      if (!board.hasLine(i) || row.cells[i] != board.lines[i].back(board.day)) {
        return i;
      }
    }
    return row.many;
  }

  public int image() {
    kept.copyFrom(board);
    images++;
    return images;
  }

  public int restore() {
    if (images == 0) {
      return error(NONE);
    }
    board.copyFrom(kept);
    return board.day;
  }

  public int tell(int v) {
    if (!board.waiting.hasRoomFor(1)) {
      return error(FULL);
    }
    board.waiting.add(v);
    return board.waiting.many;
  }

  public int check() {
    int answer = firstWrongInk();
    board.waiting.clear();
    return answer;
  }

  public int count(int what) {
    switch (what) {
      case 0: return board.many;
      case 1: return board.day;
      case 2: return board.spirit;
      case 3: return board.lost;
      case 4: return board.tape.many;
      case 5: return board.waiting.many;
      case 6: return voices.trace.many;
      case 7: return board.z;
      default: return error(BEYOND);
    }
  }

  public int told(int k) {
    return isIn(k, BEYOND, PARTED) ? errors[k] : error(BEYOND);
  }

  // ---- what the acts share

  private int error(int k) {
    errors[k]++;
    return LOW - k;
  }

  private int firstWrongInk() {
    Row waiting = board.waiting;
    for (int i = 0; i < waiting.many; i++) {
      if (i >= PENS || waiting.cells[i] != board.ink[i]) {
        return 1 + i;
      }
    }
    return 0;
  }

  private static boolean isIn(int v, int least, int most) {
    return v >= least && v <= most;
  }

  private static boolean isOf(int i, int set) {
    return (set >> i & 1) != 0;
  }

  private static boolean isKm(int km) {
    return isIn(km, 0, 10 * KINDS - 1);
  }

  private static boolean isUnder(int kind, int above) {
    int at = kind;
    for (int step = 0; step < KINDS && at != NO_KIND; step++) {
      if (at == above) {
        return true;
      }
      at = KIND_ABOVE[at];
    }
    return false;
  }

  private static int held(int v, int most) {
    return Math.max(0, Math.min(v, most));
  }

  private static int columnsFrom(int first, int many) {
    return ((1 << many) - 1) << first;
  }

  /** The COLUMN behind the first n FREE ones beside one another, from a COLUMN on; NEVER if there are none. */
  private static int freeEnd(int taken, int from, int n) {
    for (int first = from; first + n <= COLUMNS; first++) {
      if ((taken & columnsFrom(first, n)) == 0) {
        return first + n;
      }
    }
    return NEVER;
  }

  private static int longestFree(int taken) {
    for (int n = COLUMNS; n > 0; n--) {
      if (freeEnd(taken, 0, n) != NEVER) {
        return n;
      }
    }
    return 0;
  }

  private static boolean isSet(Row told, int set) {
    for (int i = 0; i < told.many; i++) {
      if (told.cells[i] != (set >> i & 1)) {
        return false;
      }
    }
    return true;
  }

  private static long sharedDivisor(long a, long b) {
    long greater = a;
    long less = b;
    for (int step = 0; step < 1000 && less != 0; step++) {
      long rest = greater % less;
      greater = less;
      less = rest;
    }
    return greater;
  }

  /** At most so many numbers, of which the first "many" count. */
  private static final class Row {
    private final int[] cells;
    private int many;

    Row(int most) {
      cells = new int[Math.max(0, most)];
    }

    boolean hasRoomFor(int n) {
      return n <= cells.length - many;
    }

    void add(int v) {
      if (many < cells.length) {
        cells[many] = v;
        many++;
      }
    }

    void clear() {
      many = 0;
    }

    /** Whether there are n numbers from number i on; said so that nothing wraps. */
    boolean stands(int i, int n) {
      return i >= 0 && n >= 0 && n <= many && i <= many - n;
    }

    void copyFrom(Row other) {
      clear();
      for (int i = 0; i < other.many; i++) {
        add(other.cells[i]);
      }
    }
  }

  private static final class Sheet {
    private static final int MOST = 24;
    private final Row row = new Row(MOST);
    private int bits;

    boolean isMissing() {
      return bits == 0;
    }

    void begin(int bits, int n) {
      this.bits = bits;
      row.clear();
      for (int i = 0; i < n; i++) {
        row.add(0);
      }
    }

    /** The lowest bits as the number that a Java row of so many bits would give back. */
    int lowestBits(int v) {
      switch (bits) {
        case 8: return (byte) v;
        case 16: return (short) v;
        default: return v;
      }
    }
  }

  private static final class Line {
    private int kind;
    private int m;
    private int columns;
    private int who;
    private int dated;
    private int photo;
    private boolean gone;

    void begin(int kind, int m, int columns, int who, int day) {
      this.kind = kind;
      this.m = m;
      this.columns = columns;
      this.who = who;
      dated = day;
      photo = 0;
      gone = false;
    }

    void copyFrom(Line other) {
      begin(other.kind, other.m, other.columns, other.who, other.dated);
      photo = other.photo;
      gone = other.gone;
    }

    /** The AGE from which on it MAY GO; each KIND has one, so that thoughts need not go DAY by DAY. */
    private int ripeAge(int spirit) {
      switch (kind) {
        case SUM: return Math.max(7, 7 * m);
        case ARROW: return 1;
        case FRAMED: return m == 0 ? 7 : NEVER;
        case BOXED: return Math.max(1, m);
        case STAIN: return spirit == 1 ? 7 : NEVER;
        default: return 7;
      }
    }

    /** Behind how many DAYS it MAY GO; above FORESIGHT if that is never. */
    int goesBehind(int day, int spirit) {
      int ripe = ripeAge(spirit);
      return gone || ripe == NEVER ? NEVER : Math.max(0, ripe - (day - dated));
    }

    int back(int day) {
      int asLine = Math.max(0, 50 - 5 * (day - dated)) + m;
      switch (kind) {
        case SUM: return held(asLine + 20, 100);
        case ARROW: return held(asLine / 2, 100);
        case GREEN: return held(asLine + 20 * photo, 100);
        case FRAMED: return held(asLine + 40, 100);
        case BOXED: return held(asLine / 2 - m, 100);
        case STAIN: return held(asLine + 5, 100);
        default: return held(asLine, 100);
      }
    }
  }

  /** All that an IMAGE keeps. */
  private static final class Board {
    private final Line[] lines = new Line[MOST_LINES];
    private int many;
    private int day;
    private int spirit;
    private int lost;
    private final int[] ink = {40, 40, 40, 40, 40};
    private int z = 1;
    private final Row tape = new Row(60);
    private final Row waiting = new Row(24);
    private final Law[] laws = {new Law(), new Law()};

    Board() {
      for (int i = 0; i < MOST_LINES; i++) {
        lines[i] = new Line();
      }
    }

    void copyFrom(Board other) {
      many = other.many;
      for (int i = 0; i < MOST_LINES; i++) {
        lines[i].copyFrom(other.lines[i]);
      }
      day = other.day;
      spirit = other.spirit;
      lost = other.lost;
      System.arraycopy(other.ink, 0, ink, 0, PENS);
      z = other.z;
      tape.copyFrom(other.tape);
      waiting.copyFrom(other.waiting);
      for (int use = 0; use < USES; use++) {
        laws[use].copyFrom(other.laws[use]);
      }
    }

    boolean hasLine(int line) {
      return line >= 0 && line < many;
    }

    int addLine(int kind, int m, int columns, int who) {
      if (many >= MOST_LINES) {
        return many;
      }
      lines[many].begin(kind, m, columns, who, day);
      many++;
      return many - 1;
    }

    boolean mayGo(int line, int onDay) {
      return lines[line].goesBehind(onDay, spirit) == 0;
    }

    int lossOf(int line, int onDay) {
      return lawGives(LOSS, lines[line].back(onDay), lines[line].m, lines[line].photo);
    }

    int wipeLine(int line) {
      int loss = lossOf(line, day);
      lines[line].gone = true;
      lost = Math.min(MOST_LOST, lost + loss);
      return loss;
    }

    int taken() {
      return takenBehind(0);
    }

    /** COLUMNS TAKEN behind so many DAYS, had at the begin of each of them all GONE that MAY GO. */
    int takenBehind(int days) {
      int columns = 0;
      for (int i = 0; i < many; i++) {
        if (!lines[i].gone && lines[i].goesBehind(day, spirit) >= days) {
          columns |= lines[i].columns;
        }
      }
      return columns;
    }

    int columnsOf(int who) {
      int columns = 0;
      for (int i = 0; i < many; i++) {
        if (!lines[i].gone && lines[i].who == who) {
          columns |= lines[i].columns;
        }
      }
      return columns;
    }

    /** LINES that aren't GONE on COLUMNS, both as sets. */
    int linesOn(int columns) {
      int set = 0;
      for (int i = 0; i < many; i++) {
        if (!lines[i].gone && (lines[i].columns & columns) != 0) {
          set |= 1 << i;
        }
      }
      return set;
    }

    int lawGives(int use, int a, int b, int c) {
      int worth;
      if (laws[use].there) {
        worth = laws[use].workOut(a, b, c);
      } else if (use == LOSS) {
        worth = c == 1 ? a / 2 : a;
      } else {
        worth = 10 * a;
      }
      return held(worth, MOST_BY_LAW);
    }

    void passDay() {
      for (int pen = 0; pen < PENS; pen++) {
        if (day % (pen + 2) == 0) {
          ink[pen] = Math.max(0, ink[pen] - 1);
        }
      }
      day++;
    }

    /** How many LINES were WIPED on that DAY. */
    int passDayByDraws() {
      int wiped = 0;
      if (many > 0) {
        int line = draw() % many;
        if (mayGo(line, day)) {
          wipeLine(line);
          wiped = 1;
        }
      }
      int column = draw() % COLUMNS;
      if (!isOf(column, taken()) && many < MOST_LINES) {
        int kind = draw() % KINDS;
        int who = draw() % PEOPLE;
        addLine(kind, 0, 1 << column, who);
      }
      passDay();
      return wiped;
    }

    private int draw() {
      z = z * 1103515245 + 12345;
      return z >>> 8;
    }
  }

  /** A ROOM that was sought. */
  private static final class Room {
    private int loss;
    private int first;
    private int lines;

    /** Whether there is a ROOM of n, if it were that DAY; which one, is told by the fields then. */
    boolean seek(Board board, int n, int day) {
      boolean any = false;
      for (int column = 0; column + n <= COLUMNS; column++) {
        int set = board.linesOn(columnsFrom(column, n));
        if (lastBehind(board, set, day) == 0) {
          int lossHere = lossOfAll(board, set, day);
          if (!any || lossHere < loss) {
            any = true;
            loss = lossHere;
            first = column;
            lines = set;
          }
        }
      }
      return any;
    }

    /** Behind how many DAYS there is first a ROOM of n; NEVER if there is none. */
    int firstBehind(Board board, int n) {
      int least = NEVER;
      for (int column = 0; column + n <= COLUMNS; column++) {
        int set = board.linesOn(columnsFrom(column, n));
        least = Math.min(least, lastBehind(board, set, board.day));
      }
      return least;
    }

    /** Behind how many DAYS all of a set MAY GO. */
    private static int lastBehind(Board board, int set, int day) {
      int last = 0;
      for (int i = 0; i < board.many; i++) {
        if (isOf(i, set)) {
          last = Math.max(last, board.lines[i].goesBehind(day, board.spirit));
        }
      }
      return last;
    }

    private static int lossOfAll(Board board, int set, int day) {
      int sum = 0;
      for (int i = 0; i < board.many; i++) {
        if (isOf(i, set)) {
          sum += board.lossOf(i, day);
        }
      }
      return sum;
    }
  }

  /** How the FREE COLUMNS are parted among those who want some. */
  private static final class Parting {
    private static final int MOST_WANTS = 6;
    // By sets of wants: the COLUMN behind the last one they need, if they are served as far left as can be.
    private final int[] ends = new int[1 << MOST_WANTS];

    int most(Row wants, int taken) {
      int sets = 1 << Math.min(wants.many, MOST_WANTS);
      int most = 0;
      ends[0] = 0;
      for (int set = 1; set < sets; set++) {
        ends[set] = leastEnd(wants, taken, set);
        if (ends[set] <= COLUMNS) {
          most = Math.max(most, Integer.bitCount(set));
        }
      }
      return most;
    }

    private int leastEnd(Row wants, int taken, int set) {
      int least = NEVER;
      for (int last = 0; last < MOST_WANTS && last < wants.many; last++) {
        if (isOf(last, set)) {
          int others = ends[set ^ (1 << last)];
          least = Math.min(least, freeEnd(taken, others, wants.cells[last]));
        }
      }
      return least;
    }
  }

  /** What a USE gives: a TEXT as code that is worked out from the left, on a stack. */
  private static final class Law {
    private static final int MOST = 60;
    private boolean there;
    private final Row code = new Row(MOST);
    private final Row stack = new Row(MOST);

    void take(Row text) {
      code.copyFrom(text);
      there = true;
    }

    void copyFrom(Law other) {
      code.copyFrom(other.code);
      there = other.there;
    }

    int workOut(int a, int b, int c) {
      stack.clear();
      for (int i = 0; i < code.many; i++) {
        int sign = code.cells[i];
        switch (sign) {
          case Reader.FIRST_NAME: stack.add(a); break;
          case Reader.FIRST_NAME - 1: stack.add(b); break;
          case Reader.FIRST_NAME - 2: stack.add(c); break;
          case -'!': stack.add(pop() == 0 ? 1 : 0); break;
          default: {
            if (sign >= 0) {
              stack.add(sign);
            } else {
              int right = pop();
              int left = pop();
              stack.add(join(left, -sign, right));
            }
          }
        }
      }
      return pop();
    }

    private int pop() {
      if (stack.many == 0) {
        return 0;
      }
      stack.many--;
      return stack.cells[stack.many];
    }

    private static int join(int left, int sign, int right) {
      switch (sign) {
        case '|': return left != 0 || right != 0 ? 1 : 0;
        case '&': return left != 0 && right != 0 ? 1 : 0;
        case '<': return left < right ? 1 : 0;
        case '=': return left == right ? 1 : 0;
        case '>': return left > right ? 1 : 0;
        case '+': return left + right;
        case '-': return left - right;
        case '*': return left * right;
        case '/': return right == 0 ? 0 : left / right;
        case '%': return right == 0 ? 0 : left % right;
        default: return 0;
      }
    }
  }

  /** Reads THE TAPE as a TEXT. Where it doesn't go on, "at" stays on the FAULT. */
  private static final class Reader {
    private static final int MOST_OPEN = 5;
    private static final int MOST_DIGITS = 4;
    private static final int COMPARING = 2;
    private static final int LEVELS = 5;
    // In the code numbers are as they are, NAMES -1 to -3, other signs the negative of their byte.
    private static final int FIRST_NAME = -1;
    private static final char[] NAMES = {'b', 'm', 'p', 'f', 'd', 'w'};

    private final Row code = new Row(Law.MOST);
    private Row tape = code;
    private int use;
    private int at;

    boolean reads(Row tape, int use) {
      this.tape = tape;
      this.use = use;
      at = 0;
      code.clear();
      return readsLevel(0, 0) && at == tape.many;
    }

    /** Reads T, A, B, S, P (levels 0 to 4) or Q, with so many of ! and ( open. */
    private boolean readsLevel(int level, int open) {
      if (level >= LEVELS) {
        return readsQ(open);
      }
      if (!readsLevel(level + 1, open)) {
        return false;
      }
      int most = level == COMPARING ? 1 : tape.many;
      for (int times = 0; times < most && levelOf(next()) == level; times++) {
        int sign = next();
        at++;
        if (!readsLevel(level + 1, open)) {
          return false;
        }
        code.add(-sign);
      }
      return true;
    }

    private boolean readsQ(int open) {
      int sign = next();
      if (isDigit(sign)) {
        return readsNumber();
      }
      for (int name = 0; name < 3; name++) {
        if (sign == NAMES[3 * use + name]) {
          at++;
          code.add(FIRST_NAME - name);
          return true;
        }
      }
      if (open >= MOST_OPEN) {
        return false;
      }
      if (sign == '!') {
        return readsNot(open + 1);
      }
      return sign == '(' && readsGroup(open + 1);
    }

    private boolean readsNot(int open) {
      at++;
      if (!readsQ(open)) {
        return false;
      }
      code.add(-'!');
      return true;
    }

    private boolean readsGroup(int open) {
      at++;
      if (!readsLevel(0, open) || next() != ')') {
        return false;
      }
      at++;
      return true;
    }

    private boolean readsNumber() {
      int number = 0;
      for (int digits = 0; digits < MOST_DIGITS && isDigit(next()); digits++) {
        number = 10 * number + next() - '0';
        at++;
      }
      code.add(number);
      return true;
    }

    /** The byte that is next, or -1 behind the last one. */
    private int next() {
      return at >= 0 && at < tape.many ? tape.cells[at] : -1;
    }

    private static boolean isDigit(int sign) {
      return sign >= '0' && sign <= '9';
    }

    private static int levelOf(int sign) {
      switch (sign) {
        case '|': return 0;
        case '&': return 1;
        case '<': case '=': case '>': return COMPARING;
        case '+': case '-': return 3;
        case '*': case '/': case '%': return 4;
        default: return -1;
      }
    }
  }

  /** VOICES of a LINE, worked out by their BODIES, and THE TRACE of the latest. */
  private static final class Voices {
    private static final int MANY = 4;
    private static final int SQUEAKS = 0;
    private static final int SMEARS = 1;
    private static final int STAYS = 2;
    private static final int PARTS = 3;
    private static final int NO_BODY = 0;
    private static final int DEEPEST = 16;
    // A row of the KINDS for each VOICE: the number of the BODY that the KIND has itself.
    private static final int[] BODIES = {
      10, 20, NO_BODY, NO_BODY, 50, NO_BODY, 70,
      11, NO_BODY, 30, NO_BODY, NO_BODY, 60, 71,
      12, NO_BODY, NO_BODY, 40, 51, NO_BODY, NO_BODY,
      13, 21, NO_BODY, NO_BODY, NO_BODY, NO_BODY, NO_BODY,
    };

    private final Row trace = new Row(30);
    private boolean parted;
    private int kind;
    private int k;
    private int m;

    int say(Line line, int number, int voice, int x) {
      trace.clear();
      parted = false;
      kind = line.kind;
      k = number;
      m = line.m;
      return workOut(voice, kind, x, 0);
    }

    /** Works out the BODY of a VOICE that a KIND has, or the next KIND above that has one. */
    private int workOut(int voice, int from, int x, int depth) {
      int body = bodyOf(voice, from);
      if (body == NO_BODY || depth > DEEPEST) {
        return 0;
      }
      trace.add(body);
      int above = KIND_ABOVE[body / 10 - 1];
      int deeper = depth + 1;
      switch (body) {
        case 10: return x + k;
        case 11: return workOut(SQUEAKS, kind, x, deeper) * 2;
        case 12: return workOut(SMEARS, kind, x, deeper) - m;
        case 13: return divided(x);
        case 20: return workOut(SQUEAKS, above, x, deeper) - 4;
        case 21: {
          int left = workOut(PARTS, above, x, deeper);
          return parted ? 0 : left + workOut(SMEARS, kind, 1, deeper);
        }
        case 30: return 0 - workOut(SMEARS, above, x, deeper);
        case 40: return workOut(STAYS, above, x / 2, deeper);
        case 50: return workOut(SQUEAKS, above, x, deeper) * 3;
        case 51: return workOut(STAYS, above, x, deeper) ^ k;
        case 60: return workOut(SMEARS, above, x + 1, deeper);
        case 70: return 9;
        case 71: return workOut(SMEARS, above, x, deeper) + m;
        default: return 0;
      }
    }

    private int divided(int x) {
      int by = m - k;
      if (by == 0) {
        parted = true;
        return 0;
      }
      return x / by;
    }

    private static int bodyOf(int voice, int from) {
      int at = from;
      for (int step = 0; step < KINDS && at != NO_KIND; step++) {
        int body = BODIES[KINDS * voice + at];
        if (body != NO_BODY) {
          return body;
        }
        at = KIND_ABOVE[at];
      }
      return NO_BODY;
    }
  }
}
