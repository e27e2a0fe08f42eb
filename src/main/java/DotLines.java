import java.util.Arrays;

/**
 * Pictures of few colours, their faces and borders, and what can be told of them.
 *
 * Every working row is made once, with the object that uses it: the calls of a run share one room,
 * and no call makes anything new.
 */
public final class DotLines {
  private static final int NO_SUCH = -1;
  private static final int NO_ROOM = -2;
  private static final int NOT_NOW = -3;
  private static final int NONE = -4;
  private static final int FAULTY = -100;
  private static final int EMPTY = -11;
  private static final int OTHER_KIND = -12;
  private static final int NO_PLACE = -13;
  private static final int BELOW_ZERO = -14;
  private static final int NO_FAILURE = -15;

  private static final int WIDEST = 16;
  private static final int HIGHEST = 12;
  private static final int DOTS = 192;
  private static final int COLOURS = 16;
  private static final int GREATEST_TONE = 255;
  private static final int GREATEST_COST = 99;
  private static final int GREATEST_MISS = 400;
  private static final int GREATEST_SPECK = 20;
  private static final int SHELVES = 8;
  private static final int LONGEST_ROW = 120;
  private static final int KINDS = 5;
  /** What face() can be asked; a rule may ask one thing more, how many faces are like it. */
  private static final int MEASURES = 12;
  private static final int LIKES = 12;
  /** Every side between two dots, or a dot and the rim, is gone along at most once. */
  private static final int MOST_STEPS = 412;
  /** Above every sum that can occur. */
  private static final int FAR = 1000000;

  /** The four sides first, in the order of the steps, then the four corners. */
  private static final int[] ACROSS = {1, 0, -1, 0, 1, -1, -1, 1};
  private static final int[] DOWN = {0, 1, 0, -1, 1, 1, -1, -1};

  private final Board board;
  private final Faces faces;
  private final Border border;
  private final Pieces pieces;
  private final Shapes shapes;
  private final Palette palette;
  private final PenWay penWay;
  private final Rules rules;
  private final RuleReader reader;
  private final History history;
  private final Shelf[] shelves;
  private final Board boardThen;
  private boolean imageTaken;

  public DotLines() {
    Board madeBoard = new Board();
    Faces madeFaces = new Faces(madeBoard);
    Border madeBorder = new Border(madeFaces);
    Shelf[] madeShelves = new Shelf[SHELVES];
    for (int d = 0; d < SHELVES; d++) {
      madeShelves[d] = new Shelf();
    }
    board = madeBoard;
    faces = madeFaces;
    border = madeBorder;
    pieces = new Pieces(madeBorder);
    shapes = new Shapes(madeFaces);
    palette = new Palette(madeBoard);
    penWay = new PenWay(madeFaces);
    rules = new Rules();
    reader = new RuleReader();
    history = new History();
    shelves = madeShelves;
    boardThen = new Board();
    imageTaken = false;
  }

  // ---- pictures

  public int fault(int d) {
    int refusal = refusalOfText(d);
    Shelf shelf = shelfAt(d);
    if (refusal < 0 || shelf == null) {
      return refusal;
    }
    return board.readText(shelf.values, shelf.size);
  }

  public int picture(int d) {
    int refusal = refusalOfText(d);
    Shelf shelf = shelfAt(d);
    if (refusal < 0 || shelf == null) {
      return refusal;
    }
    int place = board.readText(shelf.values, shelf.size);
    if (place != NONE) {
      return FAULTY - place;
    }
    board.takeText();
    history.forget();
    return board.dots();
  }

  public int dot(int at) {
    return board.isDot(at) ? board.colours[at] : NO_SUCH;
  }

  public int paint(int at, int colour) {
    if (!board.isDot(at) || !isColour(colour)) {
      return NO_SUCH;
    }
    int was = board.colours[at];
    board.startDraft();
    board.draft[at] = (byte) colour;
    changeToDraft();
    return was;
  }

  public int tone(int colour, int v) {
    if (!isColour(colour) || v < 0 || v > GREATEST_TONE) {
      return NO_SUCH;
    }
    int was = board.tones[colour];
    board.tones[colour] = v;
    return was;
  }

  public int touch(int n) {
    if (n != 0 && n != 1) {
      return NO_SUCH;
    }
    int was = board.touching;
    board.touching = n;
    board.version++;
    return was;
  }

  public int clean(int n) {
    if (n < 1 || n > GREATEST_SPECK) {
      return NO_SUCH;
    }
    faces.refresh();
    board.startDraft();
    for (int f = 0; f < faces.number; f++) {
      if (faces.size[f] <= n) {
        faces.paintDraft(f, faces.colourMostBeside(f));
      }
    }
    return changeToDraft();
  }

  // ---- faces

  public int faceOf(int at) {
    if (!board.isDot(at)) {
      return NO_SUCH;
    }
    faces.refresh();
    return faces.faceAt(at % WIDEST, at / WIDEST);
  }

  public int face(int face, int what) {
    if (!isFace(face) || what < 0 || what >= MEASURES) {
      return NO_SUCH;
    }
    return measure(face, what);
  }

  public int pair(int a, int b, int what) {
    if (!isFace(a) || !isFace(b) || a == b || what < 0 || what > 1) {
      return NO_SUCH;
    }
    return asNumber(what == 0 ? faces.areBeside(a, b) : faces.liesIn(a, b));
  }

  // ---- borders

  public int step(int face, int i, int what) {
    if (!isPoint(face, i) || what < 0 || what > 3) {
      return NO_SUCH;
    }
    switch (what) {
      case 0:
        return border.ways[i];
      case 1:
        return border.xs[i];
      case 2:
        return border.ys[i];
      default:
        return border.turnAt(i) + 1;
    }
  }

  public int corners(int face, int cost) {
    if (!isFace(face) || !isCost(cost)) {
      return NO_SUCH;
    }
    border.trace(face);
    return border.decideCorners(cost);
  }

  public int cornered(int face, int cost, int i) {
    if (!isPoint(face, i) || !isCost(cost)) {
      return NO_SUCH;
    }
    border.decideCorners(cost);
    return border.cornerAt[i];
  }

  public int inBand(int face, int i, int j, int miss) {
    if (!isPoint(face, i) || !isMiss(miss) || j <= i || j > border.steps) {
      return NO_SUCH;
    }
    return asNumber(border.staysInBand(i, j, miss));
  }

  public int fewest(int face, int miss, int i) {
    if (!isFace(face) || !isMiss(miss) || i < -1) {
      return NO_SUCH;
    }
    pieces.find(face, miss);
    if (i < 0) {
      return pieces.number;
    }
    return i < pieces.number ? pieces.ends[i] : NONE;
  }

  public int drawn(int face, int miss, int at) {
    if (!isFace(face) || !isMiss(miss) || !board.isDot(at)) {
      return NO_SUCH;
    }
    pieces.find(face, miss);
    return asNumber(pieces.hold(at % WIDEST, at / WIDEST));
  }

  public int differ(int face, int miss) {
    if (!isFace(face) || !isMiss(miss)) {
      return NO_SUCH;
    }
    pieces.find(face, miss);
    faces.markHoles(face);
    int unlike = 0;
    for (int y = 0; y < board.high; y++) {
      for (int x = 0; x < board.wide; x++) {
        if (pieces.hold(x, y) != faces.isFilled(face, x, y)) {
          unlike++;
        }
      }
    }
    return unlike;
  }

  // ---- breadths, likes

  public int breadth(int at, int what) {
    if (!board.isDot(at) || what < 0 || what > 1) {
      return NO_SUCH;
    }
    faces.refresh();
    int x = at % WIDEST;
    int y = at / WIDEST;
    shapes.growSquares(faces.faceAt(x, y));
    return what == 0 ? shapes.breadthAt(x, y) : asNumber(shapes.isMiddle(x, y));
  }

  public int stroke(int face, int n) {
    if (!isFace(face) || n < 1 || n > WIDEST) {
      return NO_SUCH;
    }
    int breadth = shapes.greatestBreadth(face);
    int longer = Math.max(faces.width(face), faces.height(face));
    return asNumber(breadth <= n && longer > 2 * breadth);
  }

  public int like(int a, int b) {
    if (!isFace(a) || !isFace(b)) {
      return NO_SUCH;
    }
    return asNumber(shapes.areLike(a, b));
  }

  public int butFor(int a, int b) {
    if (!isFace(a) || !isFace(b)) {
      return NO_SUCH;
    }
    return shapes.difference(a, b);
  }

  public int leader(int face) {
    return isFace(face) ? shapes.firstLike(face) : NO_SUCH;
  }

  // ---- colours, pens

  public int few(int k, int what) {
    if (k < 1 || k > Palette.MOST_KEPT || what < 0 || what > 1) {
      return NO_SUCH;
    }
    if (!palette.choose(k)) {
      return NOT_NOW;
    }
    return what == 0 ? palette.least : palette.kept;
  }

  public int makeFew(int k) {
    if (k < 1 || k > Palette.MOST_KEPT) {
      return NO_SUCH;
    }
    if (!palette.choose(k)) {
      return NOT_NOW;
    }
    board.startDraft();
    palette.paintDraft();
    return changeToDraft();
  }

  public int pen(int colour, int i) {
    if (!isColour(colour) || i < -1 || i >= PenWay.MOST_STOPS) {
      return NO_SUCH;
    }
    faces.refresh();
    if (!penWay.collect(colour)) {
      return NOT_NOW;
    }
    if (i >= penWay.stops || penWay.stops == 0) {
      return NONE;
    }
    penWay.plan();
    return i < 0 ? penWay.least : penWay.order[i];
  }

  // ---- rules

  public int ruleFault(int d) {
    int refusal = refusalOfText(d);
    Shelf shelf = shelfAt(d);
    if (refusal < 0 || shelf == null) {
      return refusal;
    }
    reader.read(shelf.values, shelf.size);
    return reader.place;
  }

  public int rule(int d) {
    Shelf shelf = shelfAt(d);
    if (shelf == null) {
      return NO_SUCH;
    }
    if (rules.number >= Rules.MOST) {
      return NO_ROOM;
    }
    int refusal = refusalOfText(d);
    if (refusal < 0) {
      return refusal;
    }
    reader.read(shelf.values, shelf.size);
    if (reader.place != NONE) {
      return FAULTY - reader.place;
    }
    return rules.add(shelf.values, shelf.size);
  }

  public int tell(int rule, boolean told) {
    if (rule < 0 || rule >= rules.number) {
      return NO_SUCH;
    }
    boolean other = rules.told[rule] != told;
    rules.told[rule] = told;
    return asNumber(other);
  }

  public int sign(int face) {
    if (!isFace(face)) {
      return NO_SUCH;
    }
    for (int what = 0; what < MEASURES; what++) {
      reader.fields[what] = measure(face, what);
    }
    reader.fields[LIKES] = shapes.countLike(face);
    for (int r = 0; r < rules.number; r++) {
      if (rules.told[r] && reader.read(rules.texts[r], rules.sizes[r])) {
        return rules.texts[r][0];
      }
    }
    return NONE;
  }

  // ---- changes, the image, what is told

  public int undo() {
    return history.canUndo() ? history.stepBack(board) : NOT_NOW;
  }

  public int redo() {
    return history.canRedo() ? history.stepForth(board) : NOT_NOW;
  }

  public int image() {
    boardThen.takeFrom(board);
    rules.takeImage();
    imageTaken = true;
    return board.dots();
  }

  public int restore() {
    if (!imageTaken) {
      return NOT_NOW;
    }
    board.takeFrom(boardThen);
    rules.bringBack();
    history.forget();
    return board.dots();
  }

  public int count(int what) {
    faces.refresh();
    switch (what) {
      case 0:
        return board.wide;
      case 1:
        return board.high;
      case 2:
        return faces.number;
      case 3:
        return palette.countColours();
      case 4:
        return shapes.countLeaders();
      case 5:
        return rules.number;
      case 6:
        return rules.countTold();
      case 7:
        return history.undoable;
      case 8:
        return board.countUnlikeSides();
      default:
        return NO_SUCH;
    }
  }

  // ---- shelves

  public int keep(int d, int what, int k, int face, int told) {
    Shelf shelf = shelfAt(d);
    if (shelf == null || what < 0 || what > 1) {
      return NO_SUCH;
    }
    if (what == 0) {
      shelf.empty();
      return 0;
    }
    if (k < 0 || k >= KINDS || !isFace(face) || told < 0) {
      return NO_SUCH;
    }
    border.trace(face);
    int i = told / 1000;
    int j = told % 1000;
    if (i > border.steps || j > border.steps) {
      return NO_SUCH;
    }
    int across = Math.abs(border.xs[j] - border.xs[i]);
    int down = Math.abs(border.ys[j] - border.ys[i]);
    shelf.holdPiece(k, face, across, down, shapes.greatestBreadth(face));
    return 0;
  }

  public int row(int d, int sort, int n) {
    Shelf shelf = shelfAt(d);
    if (shelf == null || sort < 0 || sort > Shelf.INTS || n > LONGEST_ROW) {
      return NO_SUCH;
    }
    if (n < 0) {
      return BELOW_ZERO;
    }
    shelf.holdRow(sort, n);
    return 0;
  }

  public int put(int d, int i, int v) {
    Shelf shelf = shelfAt(d);
    if (shelf == null) {
      return NO_SUCH;
    }
    if (shelf.holds == Shelf.NOTHING) {
      return EMPTY;
    }
    if (shelf.holds != Shelf.ROW) {
      return OTHER_KIND;
    }
    if (i < 0 || i >= shelf.size) {
      return NO_PLACE;
    }
    shelf.set(i, v);
    return 0;
  }

  public long element(int d, int i) throws IllegalArgumentException, IllegalStateException {
    Shelf shelf = shelfAt(d);
    if (shelf == null) {
      throw new IllegalArgumentException("no such shelf");
    }
    if (shelf.holds != Shelf.ROW) {
      throw new IllegalStateException("no row");
    }
    if (i < 0 || i >= shelf.size) {
      throw new IllegalStateException("no such place");
    }
    return shelf.values[i];
  }

  public int copy(int d, int i, int e, int j, int n) {
    Shelf from = shelfAt(d);
    Shelf to = shelfAt(e);
    if (from == null || to == null) {
      return NO_SUCH;
    }
    if (from.holds == Shelf.NOTHING || to.holds == Shelf.NOTHING) {
      return EMPTY;
    }
    if (from.holds != Shelf.ROW || to.holds != Shelf.ROW || from.sort != to.sort) {
      return OTHER_KIND;
    }
    // a count below 0 reaches to places that are not there, as one that is too great does
    if (n < 0 || !from.hasPlaces(i, n) || !to.hasPlaces(j, n)) {
      return NO_PLACE;
    }
    System.arraycopy(from.values, i, to.values, j, n);
    return n;
  }

  public int reach(int d) {
    int refusal = refusalOfPiece(d);
    Shelf shelf = shelfAt(d);
    return refusal < 0 || shelf == null ? refusal : shelf.pieceReach();
  }

  public int toss(int d) {
    int refusal = refusalOfPiece(d);
    Shelf shelf = shelfAt(d);
    return refusal < 0 || shelf == null ? refusal : shelf.pieceFailure();
  }

  // ---- what several calls need

  private static int asNumber(boolean holds) {
    return holds ? 1 : 0;
  }

  private static boolean isColour(int colour) {
    return colour >= 0 && colour < COLOURS;
  }

  private static boolean isDigit(int sign) {
    return sign >= '0' && sign <= '9';
  }

  private static boolean isCost(int cost) {
    return cost >= 0 && cost <= GREATEST_COST;
  }

  private static boolean isMiss(int miss) {
    return miss >= 0 && miss <= GREATEST_MISS;
  }

  private boolean isFace(int face) {
    faces.refresh();
    return faces.has(face);
  }

  /** Leaves the border traced, if there is such a face. */
  private boolean isPoint(int face, int i) {
    if (!isFace(face)) {
      return false;
    }
    border.trace(face);
    return i >= 0 && i < border.steps;
  }

  private Shelf shelfAt(int d) {
    return d >= 0 && d < shelves.length ? shelves[d] : null;
  }

  private int refusalOfText(int d) {
    Shelf shelf = shelfAt(d);
    if (shelf == null) {
      return NO_SUCH;
    }
    if (shelf.holds == Shelf.NOTHING) {
      return EMPTY;
    }
    return shelf.holds == Shelf.ROW && shelf.sort == Shelf.BYTES ? 0 : OTHER_KIND;
  }

  private int refusalOfPiece(int d) {
    Shelf shelf = shelfAt(d);
    if (shelf == null) {
      return NO_SUCH;
    }
    if (shelf.holds == Shelf.NOTHING) {
      return EMPTY;
    }
    return shelf.holds == Shelf.PIECE ? 0 : OTHER_KIND;
  }

  private int measure(int face, int what) {
    switch (what) {
      case 0:
        return faces.size[face];
      case 1:
        return faces.colour(face);
      case 2:
        return faces.first[face];
      case 3:
        return faces.left[face];
      case 4:
        return faces.top[face];
      case 5:
        return faces.width(face);
      case 6:
        return faces.height(face);
      case 7:
        return faces.markHoles(face);
      case 8:
        return faces.countBeside(face);
      case 9:
        return faces.depth(face);
      case 10:
        return shapes.greatestBreadth(face);
      default:
        border.trace(face);
        return border.steps;
    }
  }

  /** What changes no dot is no change: it is not remembered, and what was undone can still be done again. */
  private int changeToDraft() {
    int changed = board.countDraftChanges();
    if (changed > 0) {
      history.remember(board.colours);
      board.takeDraft();
    }
    return changed;
  }

  /** The picture with its tones and touch; what comes next is drawn on the draft first. */
  private static final class Board {
    int wide;
    int high;
    int touching;
    /** Goes up with every change of faces, so that what was found of them is found anew. */
    int version;
    final byte[] colours = new byte[DOTS];
    final int[] tones = new int[COLOURS];
    final byte[] draft = new byte[DOTS];
    private int readWide;
    private int readHigh;

    Board() {
      wide = 1;
      high = 1;
      for (int c = 0; c < COLOURS; c++) {
        tones[c] = 17 * c;
      }
    }

    boolean isDot(int at) {
      return at >= 0 && at < DOTS && at % WIDEST < wide && at / WIDEST < high;
    }

    int dots() {
      return wide * high;
    }

    int colourAt(int x, int y) {
      return x >= 0 && x < wide && y >= 0 && y < high ? colours[WIDEST * y + x] : -1;
    }

    void startDraft() {
      System.arraycopy(colours, 0, draft, 0, DOTS);
    }

    void takeDraft() {
      System.arraycopy(draft, 0, colours, 0, DOTS);
      version++;
    }

    int countDraftChanges() {
      int changed = 0;
      for (int at = 0; at < DOTS; at++) {
        if (draft[at] != colours[at]) {
          changed++;
        }
      }
      return changed;
    }

    int countUnlikeSides() {
      int sides = 0;
      for (int y = 0; y < high; y++) {
        for (int x = 0; x < wide; x++) {
          if (x + 1 < wide && colourAt(x, y) != colourAt(x + 1, y)) {
            sides++;
          }
          if (y + 1 < high && colourAt(x, y) != colourAt(x, y + 1)) {
            sides++;
          }
        }
      }
      return sides;
    }

    void takeFrom(Board other) {
      wide = other.wide;
      high = other.high;
      touching = other.touching;
      System.arraycopy(other.colours, 0, colours, 0, DOTS);
      System.arraycopy(other.tones, 0, tones, 0, COLOURS);
      version++;
    }

    /** Reads a picture onto the draft; answers its fault, or NONE. */
    int readText(int[] text, int size) {
      int limit = WIDEST;
      int at = 0;
      int x = 0;
      int y = 0;
      for (int runs = 0; runs <= size; runs++) {
        int colour = colourSign(byteAt(text, size, at));
        if (colour < 0 || x >= limit) {
          return at;
        }
        int run = 1;
        int behind = at + 1;
        if (byteAt(text, size, behind) == '*') {
          int digits = countDigits(text, size, behind + 1);
          run = numberOf(text, size, behind + 1, digits);
          if (run < 1 || run > WIDEST || x + run > limit) {
            return behind + 1;
          }
          behind += 1 + digits;
        }
        drawRun(x, y, run, colour);
        x += run;
        at = behind;
        if (at >= size || byteAt(text, size, at) == '/') {
          if (y > 0 && x < limit) {
            return at;
          }
          limit = x;
          if (at >= size) {
            readWide = limit;
            readHigh = y + 1;
            return NONE;
          }
          if (y + 1 >= HIGHEST) {
            return at;
          }
          at++;
          y++;
          x = 0;
        }
      }
      return size;
    }

    void takeText() {
      wide = readWide;
      high = readHigh;
      takeDraft();
    }

    private void drawRun(int x, int y, int run, int colour) {
      for (int n = 0; n < run && x + n < WIDEST && y < HIGHEST; n++) {
        draft[WIDEST * y + x + n] = (byte) colour;
      }
    }

    private static int byteAt(int[] text, int size, int at) {
      return at >= 0 && at < size && at < text.length ? text[at] : -1;
    }

    private static int colourSign(int sign) {
      if (sign >= '0' && sign <= '9') {
        return sign - '0';
      }
      return sign >= 'a' && sign <= 'f' ? sign - 'a' + 10 : -1;
    }

    /** How many digits belong to the number: two at most, and none behind a 0. */
    private static int countDigits(int[] text, int size, int at) {
      if (!isDigit(byteAt(text, size, at))) {
        return 0;
      }
      return byteAt(text, size, at) != '0' && isDigit(byteAt(text, size, at + 1)) ? 2 : 1;
    }

    /** 0 where no number stands: no run is as long as that, so both have their fault at the same place. */
    private static int numberOf(int[] text, int size, int at, int digits) {
      int number = 0;
      for (int n = 0; n < digits; n++) {
        number = 10 * number + byteAt(text, size, at + n) - '0';
      }
      return number;
    }
  }

  /** The faces of the picture as it is; refresh() comes ahead of all the rest. */
  private static final class Faces {
    private static final int MARKS_WIDE = WIDEST + 2;
    private static final int MARKS = MARKS_WIDE * (HIGHEST + 2);
    private static final int OF_FACE = -1;
    private static final int OF_RIM = 1;

    final Board board;
    int version;
    int number;
    final int[] size = new int[DOTS];
    final int[] first = new int[DOTS];
    final int[] left = new int[DOTS];
    final int[] top = new int[DOTS];
    private final int[] right = new int[DOTS];
    private final int[] bottom = new int[DOTS];
    private final int[] faceOfDot = new int[DOTS];
    private final int[] queue = new int[MARKS];
    private final int[] seen = new int[DOTS];
    private final int[] sides = new int[COLOURS];
    /** The box of the face whose holes were marked, with one place more all round, and the part each place is in. */
    private final int[] marks = new int[MARKS];
    private int marksLeft;
    private int marksTop;
    private int marksAcross;
    private int marksDown;

    Faces(Board board) {
      this.board = board;
      version = -1;
    }

    void refresh() {
      if (version == board.version) {
        return;
      }
      version = board.version;
      number = 0;
      Arrays.fill(faceOfDot, -1);
      for (int y = 0; y < board.high; y++) {
        for (int x = 0; x < board.wide; x++) {
          if (faceAt(x, y) < 0) {
            spread(x, y, number);
            number++;
          }
        }
      }
    }

    boolean has(int face) {
      return face >= 0 && face < number;
    }

    int faceAt(int x, int y) {
      return x >= 0 && x < board.wide && y >= 0 && y < board.high ? faceOfDot[WIDEST * y + x] : -1;
    }

    int colour(int face) {
      return board.colourAt(first[face] % WIDEST, first[face] / WIDEST);
    }

    int width(int face) {
      return right[face] - left[face] + 1;
    }

    int height(int face) {
      return bottom[face] - top[face] + 1;
    }

    private void spread(int x, int y, int face) {
      int colour = board.colourAt(x, y);
      int ways = board.touching == 0 ? 4 : 8;
      size[face] = 0;
      first[face] = WIDEST * y + x;
      // no dot of the face is above its first one
      top[face] = y;
      left[face] = x;
      right[face] = x;
      bottom[face] = y;
      faceOfDot[WIDEST * y + x] = face;
      queue[0] = WIDEST * y + x;
      int waiting = 1;
      for (int n = 0; n < waiting && n < DOTS; n++) {
        int fromX = queue[n] % WIDEST;
        int fromY = queue[n] / WIDEST;
        takeIn(face, fromX, fromY);
        for (int way = 0; way < ways; way++) {
          int toX = fromX + ACROSS[way];
          int toY = fromY + DOWN[way];
          if (board.colourAt(toX, toY) == colour && faceAt(toX, toY) < 0 && waiting < DOTS) {
            faceOfDot[WIDEST * toY + toX] = face;
            queue[waiting] = WIDEST * toY + toX;
            waiting++;
          }
        }
      }
    }

    private void takeIn(int face, int x, int y) {
      size[face]++;
      left[face] = Math.min(left[face], x);
      right[face] = Math.max(right[face], x);
      bottom[face] = Math.max(bottom[face], y);
    }

    boolean areBeside(int a, int b) {
      for (int y = top[a]; y <= bottom[a]; y++) {
        for (int x = left[a]; x <= right[a]; x++) {
          if (faceAt(x, y) == a && hasBeside(x, y, b)) {
            return true;
          }
        }
      }
      return false;
    }

    private boolean hasBeside(int x, int y, int face) {
      for (int way = 0; way < 4; way++) {
        if (faceAt(x + ACROSS[way], y + DOWN[way]) == face) {
          return true;
        }
      }
      return false;
    }

    int countBeside(int face) {
      Arrays.fill(seen, 0);
      int others = 0;
      for (int y = top[face]; y <= bottom[face]; y++) {
        for (int x = left[face]; x <= right[face]; x++) {
          if (faceAt(x, y) == face) {
            others += seeBeside(x, y, face);
          }
        }
      }
      return others;
    }

    private int seeBeside(int x, int y, int face) {
      int others = 0;
      for (int way = 0; way < 4; way++) {
        int other = faceAt(x + ACROSS[way], y + DOWN[way]);
        if (other >= 0 && other != face && seen[other] == 0) {
          seen[other] = 1;
          others++;
        }
      }
      return others;
    }

    /** -1 if no dot is beside the face. */
    int colourMostBeside(int face) {
      Arrays.fill(sides, 0);
      for (int y = top[face]; y <= bottom[face]; y++) {
        for (int x = left[face]; x <= right[face]; x++) {
          if (faceAt(x, y) == face) {
            countSides(x, y, face);
          }
        }
      }
      int most = -1;
      for (int c = 0; c < COLOURS; c++) {
        if (sides[c] > 0 && (most < 0 || sides[c] > sides[most])) {
          most = c;
        }
      }
      return most;
    }

    private void countSides(int x, int y, int face) {
      for (int way = 0; way < 4; way++) {
        int toX = x + ACROSS[way];
        int toY = y + DOWN[way];
        int colour = board.colourAt(toX, toY);
        if (colour >= 0 && colour < COLOURS && faceAt(toX, toY) != face) {
          sides[colour]++;
        }
      }
    }

    void paintDraft(int face, int colour) {
      if (colour < 0) {
        return;
      }
      for (int y = top[face]; y <= bottom[face]; y++) {
        for (int x = left[face]; x <= right[face]; x++) {
          if (faceAt(x, y) == face) {
            board.draft[WIDEST * y + x] = (byte) colour;
          }
        }
      }
    }

    /** Marks the parts of what isn't in the face; answers how many of them are holes. */
    int markHoles(int face) {
      marksLeft = left[face] - 1;
      marksTop = top[face] - 1;
      marksAcross = width(face) + 2;
      marksDown = height(face) + 2;
      for (int y = 0; y < marksDown; y++) {
        for (int x = 0; x < marksAcross; x++) {
          marks[MARKS_WIDE * y + x] = faceAt(marksLeft + x, marksTop + y) == face ? OF_FACE : 0;
        }
      }
      // the first place is no dot of the face, and what is outside the box hangs with the rim
      int parts = 0;
      for (int y = 0; y < marksDown; y++) {
        for (int x = 0; x < marksAcross; x++) {
          if (marks[MARKS_WIDE * y + x] == 0) {
            parts++;
            spreadMark(x, y, parts);
          }
        }
      }
      return parts - 1;
    }

    private void spreadMark(int x, int y, int part) {
      int ways = board.touching == 0 ? 8 : 4;
      marks[MARKS_WIDE * y + x] = part;
      queue[0] = MARKS_WIDE * y + x;
      int waiting = 1;
      for (int n = 0; n < waiting && n < MARKS; n++) {
        int fromX = queue[n] % MARKS_WIDE;
        int fromY = queue[n] / MARKS_WIDE;
        for (int way = 0; way < ways; way++) {
          int toX = fromX + ACROSS[way];
          int toY = fromY + DOWN[way];
          if (isMark(toX, toY) && marks[MARKS_WIDE * toY + toX] == 0 && waiting < MARKS) {
            marks[MARKS_WIDE * toY + toX] = part;
            queue[waiting] = MARKS_WIDE * toY + toX;
            waiting++;
          }
        }
      }
    }

    private boolean isMark(int x, int y) {
      return x >= 0 && x < marksAcross && y >= 0 && y < marksDown;
    }

    private int markAt(int x, int y) {
      int across = x - marksLeft;
      int down = y - marksTop;
      return isMark(across, down) ? marks[MARKS_WIDE * down + across] : OF_RIM;
    }

    /** For the face whose holes are marked: whether a dot is in it or in one of its holes. */
    boolean isFilled(int face, int x, int y) {
      return faceAt(x, y) == face || markAt(x, y) > OF_RIM;
    }

    boolean liesIn(int inner, int outer) {
      // a hole is strictly inside the box, and to look at that first spares most of the marking
      if (left[inner] <= left[outer] || right[inner] >= right[outer]
          || top[inner] <= top[outer] || bottom[inner] >= bottom[outer]) {
        return false;
      }
      markHoles(outer);
      int hole = markAt(first[inner] % WIDEST, first[inner] / WIDEST);
      if (hole <= OF_RIM) {
        return false;
      }
      for (int y = top[inner]; y <= bottom[inner]; y++) {
        for (int x = left[inner]; x <= right[inner]; x++) {
          if (faceAt(x, y) == inner && markAt(x, y) != hole) {
            return false;
          }
        }
      }
      return true;
    }

    int depth(int face) {
      int outside = 0;
      for (int f = 0; f < number; f++) {
        if (f != face && liesIn(face, f)) {
          outside++;
        }
      }
      return outside;
    }
  }

  /** The outer border of the face that was traced last. */
  private static final class Border {
    final Faces faces;
    int steps;
    final int[] ways = new int[MOST_STEPS + 1];
    /** Points, with point 0 once more behind the last. */
    final int[] xs = new int[MOST_STEPS + 1];
    final int[] ys = new int[MOST_STEPS + 1];
    final int[] cornerAt = new int[MOST_STEPS + 1];
    private int version;
    private int traced;
    private int turnCount;
    private final int[] turnPoints = new int[MOST_STEPS + 1];
    private final int[] costWithout = new int[MOST_STEPS + 1];
    private final int[] costWith = new int[MOST_STEPS + 1];

    Border(Faces faces) {
      this.faces = faces;
      version = -1;
    }

    void trace(int face) {
      if (version == faces.version && traced == face) {
        return;
      }
      version = faces.version;
      traced = face;
      int x = faces.first[face] % WIDEST;
      int y = faces.first[face] / WIDEST;
      int startX = x;
      int startY = y;
      int way = 0;
      for (int n = 0; n < MOST_STEPS; n++) {
        ways[n] = way;
        xs[n] = x;
        ys[n] = y;
        steps = n + 1;
        x += ACROSS[way & 3];
        y += DOWN[way & 3];
        way = wayOn(face, x, y, way);
        if (x == startX && y == startY && way == 0) {
          break;
        }
      }
      xs[steps] = startX;
      ys[steps] = startY;
      listTurns();
    }

    private int wayOn(int face, int x, int y, int way) {
      boolean aheadRight = isInQuarter(face, x, y, way);
      boolean aheadLeft = isInQuarter(face, x, y, way + 3);
      boolean left = aheadLeft && (aheadRight || faces.board.touching == 1);
      if (left) {
        return (way + 3) & 3;
      }
      return aheadRight ? way : (way + 1) & 3;
    }

    /** Of the four dots round a point: 0 is below to the right, the others follow clockwise. */
    private boolean isInQuarter(int face, int x, int y, int quarter) {
      int q = quarter & 3;
      int dotX = q == 1 || q == 2 ? x - 1 : x;
      int dotY = q >= 2 ? y - 1 : y;
      return faces.faceAt(dotX, dotY) == face;
    }

    private void listTurns() {
      turnCount = 0;
      for (int i = 0; i < steps; i++) {
        if (turnAt(i) != 0) {
          turnPoints[turnCount] = i;
          turnCount++;
        }
      }
    }

    /** 1 to the right, -1 to the left. */
    int turnAt(int i) {
      int ahead = i == 0 ? ways[steps - 1] : ways[i - 1];
      int turned = (ways[i] - ahead) & 3;
      if (turned == 0) {
        return 0;
      }
      return turned == 1 ? 1 : -1;
    }

    /** Fills cornerAt; answers the least sum. */
    int decideCorners(int cost) {
      int startWith = sumCorners(cost, 1);
      int startWithout = sumCorners(cost, 0);
      if (startWithout <= startWith) {
        followCorners(cost, 0);
        return startWithout;
      }
      sumCorners(cost, 1);
      followCorners(cost, 1);
      return startWith;
    }

    /** Sums from the back: what all from a turn on cost at least, if the first turn of all is chosen so. */
    private int sumCorners(int cost, int start) {
      costWithout[turnCount] = start == 0 ? 0 : FAR;
      costWith[turnCount] = start == 1 ? 0 : FAR;
      for (int t = turnCount - 1; t >= 0; t--) {
        costWithout[t] = Math.min(priceWithout(t) + costWithout[t + 1], 10 + costWith[t + 1]);
        costWith[t] = cost + costWithout[t + 1];
      }
      return start == 1 ? costWith[0] : costWithout[0];
    }

    /** What a turn without a corner costs if the next one has none, too. */
    private int priceWithout(int t) {
      int next = t + 1 < turnCount ? t + 1 : 0;
      return turnAt(turnPoints[t]) == turnAt(turnPoints[next]) ? 25 : 10;
    }

    private void followCorners(int cost, int start) {
      Arrays.fill(cornerAt, 0);
      int corner = start;
      for (int t = 0; t < turnCount; t++) {
        cornerAt[turnPoints[t]] = corner;
        if (corner == 1) {
          corner = 0;
        } else {
          corner = costWithout[t] == priceWithout(t) + costWithout[t + 1] ? 0 : 1;
        }
      }
    }

    boolean staysInBand(int i, int j, int miss) {
      for (int k = i + 1; k < j; k++) {
        if (!isNear(i, j, k, miss)) {
          return false;
        }
      }
      return true;
    }

    /** Whether point k is near enough to the line through points i and j, both sides taken to the square. */
    boolean isNear(int i, int j, int k, int miss) {
      long lineX = xs[j] - xs[i];
      long lineY = ys[j] - ys[i];
      long toX = xs[k] - xs[i];
      long toY = ys[k] - ys[i];
      long square = lineX * lineX + lineY * lineY;
      if (square == 0) {
        return 10000L * (toX * toX + toY * toY) <= (long) miss * miss;
      }
      long cross = lineX * toY - lineY * toX;
      return 10000L * cross * cross <= (long) miss * miss * square;
    }
  }

  /** The fewest straight pieces of a border, and what they draw back. */
  private static final class Pieces {
    final Border border;
    int number;
    /** The points at which the pieces begin, and the end of the last one. */
    final int[] ends = new int[MOST_STEPS + 1];
    private int version;
    private int foundFace;
    private int foundMiss;
    /** From a point to the end of the border: the fewest pieces, and the first one's end. */
    private final int[] least = new int[MOST_STEPS + 1];
    private final int[] next = new int[MOST_STEPS + 1];
    /** The same, of two pieces or more. */
    private final int[] leastOfTwo = new int[MOST_STEPS + 1];
    private final int[] nextOfTwo = new int[MOST_STEPS + 1];
    private int nextOfThree;
    /** A point that was too far from a line: the next line from near there fails by it most often, too. */
    private int farPoint;

    Pieces(Border border) {
      this.border = border;
      version = -1;
    }

    void find(int face, int miss) {
      border.trace(face);
      if (version == border.version && foundFace == face && foundMiss == miss) {
        return;
      }
      version = border.version;
      foundFace = face;
      foundMiss = miss;
      int last = border.steps;
      for (int i = last - 1; i >= 0; i--) {
        lookAhead(i, last, miss);
      }
      follow(last);
    }

    /** From the last end back: of several with the same number of pieces the longest first piece is wanted. */
    private void lookAhead(int i, int last, int miss) {
      leastOfTwo[i] = FAR;
      nextOfTwo[i] = last;
      int leastOfThree = FAR;
      for (int j = last - 1; j > i; j--) {
        boolean better = 1 + least[j] < leastOfTwo[i];
        boolean betterOfThree = i == 0 && 1 + leastOfTwo[j] < leastOfThree;
        boolean stays = (better || betterOfThree) && staysNear(i, j, miss);
        if (stays && better) {
          leastOfTwo[i] = 1 + least[j];
          nextOfTwo[i] = j;
        }
        if (stays && betterOfThree) {
          leastOfThree = 1 + leastOfTwo[j];
          nextOfThree = j;
        }
      }
      boolean toTheEnd = staysNear(i, last, miss);
      least[i] = toTheEnd ? 1 : leastOfTwo[i];
      next[i] = toTheEnd ? last : nextOfTwo[i];
    }

    private boolean staysNear(int i, int j, int miss) {
      if (farPoint > i && farPoint < j && !border.isNear(i, j, farPoint, miss)) {
        return false;
      }
      for (int k = i + 1; k < j; k++) {
        if (!border.isNear(i, j, k, miss)) {
          farPoint = k;
          return false;
        }
      }
      return true;
    }

    private void follow(int last) {
      ends[0] = 0;
      number = 0;
      int point = 0;
      for (int n = 0; n < last && point < last; n++) {
        if (n == 0) {
          point = nextOfThree;
        } else {
          point = n == 1 ? nextOfTwo[point] : next[point];
        }
        number = n + 1;
        ends[number] = point;
      }
    }

    /** Whether the middle of a dot is in the polygon of the pieces. */
    boolean hold(int x, int y) {
      boolean inside = false;
      for (int n = 0; n < number; n++) {
        if (isCrossed(ends[n], ends[n + 1], x, y)) {
          inside = !inside;
        }
      }
      return inside;
    }

    /** Whether a line from the middle of a dot to the right crosses a piece, both told in halves of a step. */
    private boolean isCrossed(int i, int j, int x, int y) {
      int fromY = border.ys[i];
      int toY = border.ys[j];
      if ((fromY <= y) == (toY <= y)) {
        return false;
      }
      int fromX = border.xs[i];
      int down = toY - fromY;
      int ahead = (2 * fromX - 2 * x - 1) * down + (2 * y + 1 - 2 * fromY) * (border.xs[j] - fromX);
      return down > 0 ? ahead > 0 : ahead < 0;
    }
  }

  /** Breadths of faces, and which of them are like. */
  private static final class Shapes {
    final Faces faces;
    /** How wide the greatest square of the face is whose last dot, below to the right, is this one. */
    private final int[] squares = new int[DOTS];
    private int grown;

    Shapes(Faces faces) {
      this.faces = faces;
    }

    void growSquares(int face) {
      grown = face;
      for (int y = 0; y < faces.board.high; y++) {
        for (int x = 0; x < faces.board.wide; x++) {
          int smallest = Math.min(squareAt(x - 1, y - 1), Math.min(squareAt(x - 1, y), squareAt(x, y - 1)));
          squares[WIDEST * y + x] = faces.faceAt(x, y) == face ? 1 + smallest : 0;
        }
      }
    }

    private int squareAt(int x, int y) {
      return x >= 0 && x < faces.board.wide && y >= 0 && y < faces.board.high ? squares[WIDEST * y + x] : 0;
    }

    int greatestBreadth(int face) {
      growSquares(face);
      int greatest = 0;
      for (int y = 0; y < faces.board.high; y++) {
        for (int x = 0; x < faces.board.wide; x++) {
          greatest = Math.max(greatest, squareAt(x, y));
        }
      }
      return greatest;
    }

    int breadthAt(int x, int y) {
      int greatest = 0;
      for (int down = 0; down < HIGHEST; down++) {
        for (int across = 0; across < WIDEST; across++) {
          int square = squareAt(x + across, y + down);
          if (square > across && square > down) {
            greatest = Math.max(greatest, square);
          }
        }
      }
      return greatest;
    }

    boolean isMiddle(int x, int y) {
      int own = roomAround(x, y);
      for (int way = 0; way < 4; way++) {
        int besideX = x + ACROSS[way];
        int besideY = y + DOWN[way];
        if (faces.faceAt(besideX, besideY) == grown && roomAround(besideX, besideY) > own) {
          return false;
        }
      }
      return true;
    }

    private int roomAround(int x, int y) {
      int room = 0;
      for (int r = 1; r < HIGHEST; r++) {
        if (squareAt(x + r, y + r) < 2 * r + 1) {
          break;
        }
        room = r;
      }
      return room;
    }

    boolean areLike(int a, int b) {
      if (faces.size[a] != faces.size[b]) {
        return false;
      }
      for (int turn = 0; turn < 8; turn++) {
        if (liesOn(a, b, turn)) {
          return true;
        }
      }
      return false;
    }

    /** The bits of turn: x and y change places, x is mirrored, y is mirrored. */
    private boolean liesOn(int a, int b, int turn) {
      boolean swapped = (turn & 1) != 0;
      int width = faces.width(b);
      int height = faces.height(b);
      if (faces.width(a) != (swapped ? height : width) || faces.height(a) != (swapped ? width : height)) {
        return false;
      }
      for (int y = 0; y < faces.height(a); y++) {
        for (int x = 0; x < faces.width(a); x++) {
          int across = swapped ? y : x;
          int down = swapped ? x : y;
          int toX = (turn & 2) != 0 ? width - 1 - across : across;
          int toY = (turn & 4) != 0 ? height - 1 - down : down;
          if (isIn(a, x, y) && !isIn(b, toX, toY)) {
            return false;
          }
        }
      }
      return true;
    }

    /** By places in the face's box. */
    private boolean isIn(int face, int x, int y) {
      return faces.faceAt(faces.left[face] + x, faces.top[face] + y) == face;
    }

    int difference(int a, int b) {
      if (faces.width(a) != faces.width(b) || faces.height(a) != faces.height(b)) {
        return NONE;
      }
      int unlike = 0;
      for (int y = 0; y < faces.height(a); y++) {
        for (int x = 0; x < faces.width(a); x++) {
          if (isIn(a, x, y) != isIn(b, x, y)) {
            unlike++;
          }
        }
      }
      return unlike;
    }

    int firstLike(int face) {
      for (int f = 0; f < face; f++) {
        if (areLike(f, face)) {
          return f;
        }
      }
      return face;
    }

    int countLike(int face) {
      int like = 0;
      for (int f = 0; f < faces.number; f++) {
        if (areLike(f, face)) {
          like++;
        }
      }
      return like;
    }

    int countLeaders() {
      int leaders = 0;
      for (int f = 0; f < faces.number; f++) {
        if (firstLike(f) == f) {
          leaders++;
        }
      }
      return leaders;
    }
  }

  /** Which few of the colours that occur stand best for all of them. */
  private static final class Palette {
    static final int MOST_KEPT = 4;
    private static final int MOST_COLOURS = 8;

    final Board board;
    int least;
    /** A bit for each colour. */
    int kept;
    private final int[] dotsOf = new int[COLOURS];
    private final int[] occurring = new int[COLOURS];

    Palette(Board board) {
      this.board = board;
    }

    int countColours() {
      Arrays.fill(dotsOf, 0);
      for (int y = 0; y < board.high; y++) {
        for (int x = 0; x < board.wide; x++) {
          int colour = board.colourAt(x, y);
          if (isColour(colour)) {
            dotsOf[colour]++;
          }
        }
      }
      int number = 0;
      for (int c = 0; c < COLOURS; c++) {
        if (dotsOf[c] > 0) {
          occurring[number] = c;
          number++;
        }
      }
      return number;
    }

    /** False if there are too many colours to choose from. */
    boolean choose(int most) {
      int number = countColours();
      if (number > MOST_COLOURS) {
        return false;
      }
      least = 0;
      kept = 0;
      // in this order the sets go up as bits, so the first of several stays
      for (int chosen = 1; chosen < 1 << number; chosen++) {
        if (Integer.bitCount(chosen) <= most) {
          int set = asSet(chosen, number);
          int sum = sumWith(set);
          if (kept == 0 || sum < least) {
            least = sum;
            kept = set;
          }
        }
      }
      return true;
    }

    private int asSet(int chosen, int number) {
      int set = 0;
      for (int n = 0; n < number && n < COLOURS; n++) {
        if ((chosen >> n & 1) != 0) {
          set |= 1 << occurring[n];
        }
      }
      return set;
    }

    private int sumWith(int set) {
      int sum = 0;
      for (int c = 0; c < COLOURS; c++) {
        if (dotsOf[c] > 0) {
          int far = distance(c, nearest(c, set));
          sum += dotsOf[c] * far * far;
        }
      }
      return sum;
    }

    private int nearest(int colour, int set) {
      int best = colour;
      int far = FAR;
      for (int c = 0; c < COLOURS; c++) {
        if ((set >> c & 1) != 0 && distance(colour, c) < far) {
          best = c;
          far = distance(colour, c);
        }
      }
      return best;
    }

    private int distance(int a, int b) {
      return Math.abs(board.tones[a] - board.tones[b]);
    }

    void paintDraft() {
      for (int at = 0; at < DOTS; at++) {
        if (board.isDot(at)) {
          board.draft[at] = (byte) nearest(board.colours[at], kept);
        }
      }
    }
  }

  /** The least way of a pen to the borders of one colour's faces. */
  private static final class PenWay {
    static final int MOST_STOPS = 7;
    private static final int SETS = 1 << MOST_STOPS;

    final Faces faces;
    int stops;
    int least;
    /** Faces, in the order in which they are drawn. */
    final int[] order = new int[MOST_STOPS];
    private final int[] stopFaces = new int[MOST_STOPS];
    /** For each set of drawn stops and the last of them: the way that is left at least. */
    private final int[] left = new int[SETS * MOST_STOPS];

    PenWay(Faces faces) {
      this.faces = faces;
    }

    /** False if there are too many faces. */
    boolean collect(int colour) {
      stops = 0;
      for (int f = 0; f < faces.number; f++) {
        if (faces.colour(f) == colour) {
          if (stops >= MOST_STOPS) {
            return false;
          }
          stopFaces[stops] = f;
          stops++;
        }
      }
      return true;
    }

    void plan() {
      int all = (1 << stops) - 1;
      for (int set = all; set > 0; set--) {
        for (int last = 0; last < stops; last++) {
          left[MOST_STOPS * set + last] = set == all ? 0 : leastFrom(set, last);
        }
      }
      least = leastFrom(0, -1);
      int set = 0;
      int last = -1;
      for (int n = 0; n < stops; n++) {
        last = firstBest(set, last);
        set |= 1 << last;
        order[n] = stopFaces[last];
      }
    }

    private int leastFrom(int set, int last) {
      int shortest = FAR;
      for (int stop = 0; stop < stops; stop++) {
        shortest = Math.min(shortest, wayOver(set, last, stop));
      }
      return shortest;
    }

    private int firstBest(int set, int last) {
      int shortest = leastFrom(set, last);
      for (int stop = 0; stop < stops; stop++) {
        if (wayOver(set, last, stop) == shortest) {
          return stop;
        }
      }
      return 0;
    }

    /** What is left if this stop comes next; FAR if it has been drawn. */
    private int wayOver(int set, int last, int stop) {
      if ((set >> stop & 1) != 0) {
        return FAR;
      }
      int place = MOST_STOPS * (set | 1 << stop) + stop;
      return place < left.length ? distance(last, stop) + left[place] : FAR;
    }

    /** A pen that has drawn nothing is at 0, 0. */
    private int distance(int last, int stop) {
      int from = last < 0 ? 0 : faces.first[stopFaces[last]];
      int to = faces.first[stopFaces[stop]];
      return Math.abs(to % WIDEST - from % WIDEST) + Math.abs(to / WIDEST - from / WIDEST);
    }
  }

  /** The rules as texts without a fault. */
  private static final class Rules {
    static final int MOST = 12;

    int number;
    final int[][] texts = new int[MOST][LONGEST_ROW];
    final int[] sizes = new int[MOST];
    final boolean[] told = new boolean[MOST];
    private int numberThen;
    private final boolean[] toldThen = new boolean[MOST];

    int add(int[] text, int size) {
      if (number >= MOST || size > LONGEST_ROW) {
        return NO_ROOM;
      }
      System.arraycopy(text, 0, texts[number], 0, size);
      sizes[number] = size;
      told[number] = true;
      number++;
      return number - 1;
    }

    int countTold() {
      int count = 0;
      for (int r = 0; r < number; r++) {
        if (told[r]) {
          count++;
        }
      }
      return count;
    }

    /** Rules are only ever added behind the others, so their texts need not be kept twice. */
    void takeImage() {
      numberThen = number;
      for (int r = 0; r < MOST; r++) {
        toldThen[r] = told[r];
      }
    }

    void bringBack() {
      number = numberThen;
      for (int r = 0; r < MOST; r++) {
        told[r] = toldThen[r];
      }
    }
  }

  /** Reads a rule from its left to its right; what it finds on the way is whether the rule holds. */
  private static final class RuleReader {
    private static final int DEEPEST = 8;
    private static final int MOST_DIGITS = 4;

    /** Of the face that the rule is read for: what face() tells, and how many are like it. */
    final int[] fields = new int[MEASURES + 1];
    /** The fault; NONE if it is a rule. */
    int place;
    private int[] text;
    private int size;
    private int at;

    RuleReader() {
      text = new int[0];
      place = NONE;
    }

    boolean read(int[] words, int length) {
      text = words;
      size = Math.min(length, words.length);
      at = 0;
      place = NONE;
      if (byteAhead() >= 'A' && byteAhead() <= 'Z') {
        at++;
      } else {
        stop();
      }
      take(':');
      boolean holds = readOr(0);
      if (at < size) {
        stop();
      }
      return holds;
    }

    /** -1 behind the end, and behind a fault: so nothing is read on. */
    private int byteAhead() {
      return place == NONE && at >= 0 && at < size ? text[at] : -1;
    }

    private void stop() {
      if (place == NONE) {
        place = at;
      }
    }

    private void take(int wanted) {
      if (byteAhead() == wanted) {
        at++;
      } else {
        stop();
      }
    }

    private boolean readOr(int depth) {
      boolean holds = readAnd(depth);
      for (int n = 0; n < size && byteAhead() == '|'; n++) {
        at++;
        boolean other = readAnd(depth);
        holds = holds || other;
      }
      return holds;
    }

    private boolean readAnd(int depth) {
      boolean holds = readTest(depth);
      for (int n = 0; n < size && byteAhead() == '&'; n++) {
        at++;
        boolean other = readTest(depth);
        holds = holds && other;
      }
      return holds;
    }

    private boolean readTest(int depth) {
      boolean turned = false;
      for (int n = 0; n < size && byteAhead() == '!'; n++) {
        at++;
        turned = !turned;
      }
      boolean holds = byteAhead() == '(' ? readBracket(depth) : readComparison();
      return holds != turned;
    }

    private boolean readBracket(int depth) {
      if (depth >= DEEPEST) {
        stop();
        return false;
      }
      at++;
      boolean holds = readOr(depth + 1);
      take(')');
      return holds;
    }

    private boolean readComparison() {
      int one = readSum();
      int comparison = byteAhead();
      if (comparison != '<' && comparison != '>' && comparison != '=') {
        stop();
        return false;
      }
      at++;
      int other = readSum();
      if (comparison == '=') {
        return one == other;
      }
      return comparison == '<' ? one < other : one > other;
    }

    private int readSum() {
      int sum = readAtom();
      for (int n = 0; n < size && (byteAhead() == '+' || byteAhead() == '-'); n++) {
        boolean more = byteAhead() == '+';
        at++;
        int atom = readAtom();
        sum = more ? sum + atom : sum - atom;
      }
      return sum;
    }

    private int readAtom() {
      if (isDigit(byteAhead())) {
        return readNumber();
      }
      int field = fieldOf(byteAhead());
      if (field < 0) {
        stop();
        return 0;
      }
      at++;
      return fields[field];
    }

    private int readNumber() {
      if (byteAhead() == '0') {
        at++;
        return 0;
      }
      int number = 0;
      for (int n = 0; n < MOST_DIGITS && isDigit(byteAhead()); n++) {
        number = 10 * number + byteAhead() - '0';
        at++;
      }
      return number;
    }

    private static int fieldOf(int sign) {
      switch (sign) {
        case 's':
          return 0;
        case 'c':
          return 1;
        case 'x':
          return 3;
        case 'y':
          return 4;
        case 'w':
          return 5;
        case 't':
          return 6;
        case 'h':
          return 7;
        case 'n':
          return 8;
        case 'd':
          return 9;
        case 'g':
          return 10;
        case 'b':
          return 11;
        case 'k':
          return LIKES;
        default:
          return -1;
      }
    }
  }

  /**
   * The changes, in a ring. A change that may be undone keeps the dots ahead of it; undone, it keeps
   * the dots behind it instead, so going back and forth is an exchange.
   */
  private static final class History {
    private static final int KEPT = 20;

    int undoable;
    private int redoable;
    private int oldest;
    private final byte[][] dots = new byte[KEPT][DOTS];

    void forget() {
      undoable = 0;
      redoable = 0;
    }

    boolean canUndo() {
      return undoable > 0;
    }

    boolean canRedo() {
      return redoable > 0;
    }

    void remember(byte[] colours) {
      if (undoable == KEPT) {
        oldest = (oldest + 1) % KEPT;
        undoable--;
      }
      System.arraycopy(colours, 0, dots[(oldest + undoable) % KEPT], 0, DOTS);
      undoable++;
      redoable = 0;
    }

    int stepBack(Board board) {
      undoable--;
      redoable++;
      return exchange(board, (oldest + undoable) % KEPT);
    }

    int stepForth(Board board) {
      int changed = exchange(board, (oldest + undoable) % KEPT);
      undoable++;
      redoable--;
      return changed;
    }

    private int exchange(Board board, int change) {
      board.startDraft();
      System.arraycopy(dots[change], 0, board.colours, 0, DOTS);
      System.arraycopy(board.draft, 0, dots[change], 0, DOTS);
      board.version++;
      return board.countDraftChanges();
    }
  }

  /** What a shelf holds. Its row is made once, and used again by every row that it gets. */
  private static final class Shelf {
    static final int NOTHING = 0;
    static final int PIECE = 1;
    static final int ROW = 2;
    static final int BYTES = 0;
    static final int SHORTS = 1;
    static final int INTS = 2;
    private static final int LINE = 1;
    private static final int ROUND = 2;
    private static final int BOW = 3;
    private static final int PEN = 4;

    int holds;
    int sort;
    int size;
    final int[] values = new int[LONGEST_ROW];
    private int kind;
    private int heldFace;
    private int across;
    private int down;
    private int heldBreadth;

    void empty() {
      holds = NOTHING;
      size = 0;
    }

    void holdRow(int newSort, int newSize) {
      holds = ROW;
      sort = newSort;
      size = newSize;
      Arrays.fill(values, 0);
    }

    void set(int i, int v) {
      if (sort == BYTES) {
        values[i] = (byte) v;
      } else {
        values[i] = sort == SHORTS ? (short) v : v;
      }
    }

    boolean hasPlaces(int from, int n) {
      return from >= 0 && from <= size && n <= size - from;
    }

    void holdPiece(int newKind, int face, int newAcross, int newDown, int breadth) {
      holds = PIECE;
      size = 0;
      kind = newKind;
      heldFace = face;
      across = newAcross;
      down = newDown;
      heldBreadth = breadth;
    }

    int pieceReach() {
      int together = across + down;
      switch (kind) {
        case LINE:
          return straightReach();
        case ROUND:
          return together + together / 2;
        case BOW:
          return together + together / 2 + 3;
        case PEN:
          return straightReach() + heldBreadth;
        default:
          return together;
      }
    }

    private int straightReach() {
      int square = across * across + down * down;
      int root = 0;
      for (int r = 1; r <= WIDEST + HIGHEST && r * r <= square; r++) {
        root = r;
      }
      return root;
    }

    int pieceFailure() {
      if (kind == LINE || (across == 0 && down == 0)) {
        return NO_FAILURE;
      }
      if (kind == PEN) {
        return heldBreadth;
      }
      return kind == BOW ? heldFace + 100 : heldFace;
    }
  }
}
