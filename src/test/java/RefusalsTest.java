import java.util.function.IntFunction;
import java.util.function.ToLongFunction;

/**
 * Each refused call of the promises 1 to 42: its answer, of several refusals the first, and that nothing
 * that is held has changed. What is allowed next to it is looked at in the tests of bounds.
 */
public final class RefusalsTest {
  private static final int MIN = Integer.MIN_VALUE;
  private static final int MAX = Integer.MAX_VALUE;
  /** Beside, under, ahead of and behind a picture 5 wide and 4 high. */
  private static final int[] NO_DOTS = {5, 15, 21, 31, 53, 64, 68, 191, 192, 193, -1, -16, MIN, MAX};

  public static void main(String[] args) {
    richIsAsTold();
    texts();
    dots();
    faces();
    borders();
    shapes();
    colours();
    pens();
    rules();
    changes();
    keeping();
    rows();
    elements();
    copies();
    reachAndToss();
    Due.end();
  }

  private static void refused(String what, ToLongFunction<DotLines> call, long want) {
    Rich.refused(what, call, want);
  }

  /** The same refusal for every number out of a range. */
  private static void all(String what, int[] bad, IntFunction<ToLongFunction<DotLines>> call, long want) {
    for (int n : bad) {
      refused(what + " " + n, call.apply(n), want);
    }
  }

  private static int[] notIn(int least, int most) {
    return Rich.outside(least, most);
  }

  private static int[] noFace() {
    return notIn(0, Rich.FACES - 1);
  }

  /** Without these nothing would be seen of what a refused call may spoil. */
  private static void richIsAsTold() {
    DotLines x = Rich.made();
    Due.is("wide", x.count(0), Rich.WIDE);
    Due.is("high", x.count(1), Rich.HIGH);
    Due.is("faces", x.count(2), Rich.FACES);
    Due.is("rules", x.count(5), Rich.RULES);
    Due.is("told", x.count(6), 2);
    Due.is("to undo", x.count(7), 2);
    Due.is("to do again", x.redo(), 6);
    Due.is("no more", x.redo(), -3);
    Due.is("an image", x.restore(), 12);
    Due.is("nothing on the last shelf", x.reach(7), -11);
    Due.is("a pen", x.reach(6), 4);
    Due.is("a piece", x.reach(3), 2);
  }

  // ---- promises 2, 3

  private static void texts() {
    all("fault, shelf", notIn(0, 7), d -> x -> x.fault(d), -1);
    refused("fault of nothing", x -> x.fault(7), -11);
    refused("fault of shorts", x -> x.fault(1), -12);
    refused("fault of ints", x -> x.fault(2), -12);
    refused("fault of a piece", x -> x.fault(3), -12);
    refused("fault of a pen", x -> x.fault(6), -12);
    refused("a fault that is told", x -> x.fault(5), 4);
    all("picture, shelf", notIn(0, 7), d -> x -> x.picture(d), -1);
    refused("picture of nothing", x -> x.picture(7), -11);
    refused("picture of shorts", x -> x.picture(1), -12);
    refused("picture of ints", x -> x.picture(2), -12);
    refused("picture of a piece", x -> x.picture(3), -12);
    refused("picture of a pen", x -> x.picture(6), -12);
    refused("picture with a fault", x -> x.picture(5), -104);
    refused("picture of a rule", x -> x.picture(4), -100);
    String[] faulty = {"", "/", "0*", "0*0", "0*17", "0*16a", "000/0000", "000/0*4", "000/00", "000/00/000", "000/"};
    int[] places = {0, 0, 2, 2, 2, 4, 7, 6, 6, 6, 4};
    for (int n = 0; n < faulty.length; n++) {
      String text = faulty[n];
      Rich.refused("picture " + text, () -> with(5, text), x -> x.picture(5), -100 - places[n]);
    }
    String twelve = "0*16/1*16/2*16/3*16/4*16/5*16/6*16/7*16/8*16/9*16/a*16/b*16";
    Rich.refused("thirteen lines", () -> with(5, twelve + "/c*16"), x -> x.picture(5), -159);
    Rich.refused("a short last line", () -> with(5, twelve.substring(0, 58) + "5"), x -> x.picture(5), -159);
  }

  private static DotLines with(int shelf, String text) {
    DotLines x = Rich.made();
    Due.text(x, shelf, text);
    return x;
  }

  // ---- promises 4 to 8

  private static void dots() {
    all("dot", NO_DOTS, at -> x -> x.dot(at), -1);
    all("paint", NO_DOTS, at -> x -> x.paint(at, 9), -1);
    all("paint with colour", notIn(0, 15), c -> x -> x.paint(0, c), -1);
    refused("paint no dot with no colour", x -> x.paint(5, 16), -1);
    all("tone of colour", notIn(0, 15), c -> x -> x.tone(c, 1), -1);
    all("tone", notIn(0, 255), v -> x -> x.tone(3, v), -1);
    all("tone of the last colour", notIn(0, 255), v -> x -> x.tone(15, v), -1);
    all("touch", notIn(0, 1), n -> x -> x.touch(n), -1);
    all("clean", notIn(1, 20), n -> x -> x.clean(n), -1);
  }

  // ---- promises 9 to 11

  private static void faces() {
    all("faceOf", NO_DOTS, at -> x -> x.faceOf(at), -1);
    all("face", noFace(), f -> x -> x.face(f, 0), -1);
    all("STEPS of face", noFace(), f -> x -> x.face(f, 11), -1);
    all("face, what", notIn(0, 11), what -> x -> x.face(0, what), -1);
    for (int what = 0; what < 2; what++) {
      int w = what;
      all("pair, first", noFace(), f -> x -> x.pair(f, 0, w), -1);
      all("pair, second", noFace(), f -> x -> x.pair(0, f, w), -1);
      for (int f = 0; f < Rich.FACES; f++) {
        int same = f;
        refused("pair, one twice", x -> x.pair(same, same, w), -1);
      }
      refused("pair, no face twice", x -> x.pair(Rich.FACES, Rich.FACES, w), -1);
    }
    all("pair, what", notIn(0, 1), what -> x -> x.pair(0, 1, what), -1);
    all("count", notIn(0, 8), what -> x -> x.count(what), -1);
  }

  // ---- promises 12 to 18: face 0 has the steps 0 .. 3

  private static void borders() {
    all("step, face", noFace(), f -> x -> x.step(f, 0, 0), -1);
    all("step", notIn(0, 3), i -> x -> x.step(0, i, 0), -1);
    all("step, what", notIn(0, 3), what -> x -> x.step(0, 0, what), -1);
    all("corners, face", noFace(), f -> x -> x.corners(f, 5), -1);
    all("corners, cost", notIn(0, 99), c -> x -> x.corners(0, c), -1);
    all("cornered, face", noFace(), f -> x -> x.cornered(f, 5, 0), -1);
    all("cornered, cost", notIn(0, 99), c -> x -> x.cornered(0, c, 0), -1);
    all("cornered, point", notIn(0, 3), i -> x -> x.cornered(0, 5, i), -1);
    all("inBand, face", noFace(), f -> x -> x.inBand(f, 0, 1, 5), -1);
    all("inBand, from", new int[] {-1, MIN, 4, 5, MAX}, i -> x -> x.inBand(0, i, 4, 5), -1);
    all("inBand, to", new int[] {1, 0, -1, MIN, 5, MAX}, j -> x -> x.inBand(0, 1, j, 5), -1);
    refused("inBand, from above to above", x -> x.inBand(0, 4, 5, 5), -1);
    all("inBand, miss", notIn(0, 400), m -> x -> x.inBand(0, 0, 1, m), -1);
    all("fewest, face", noFace(), f -> x -> x.fewest(f, 0, -1), -1);
    all("fewest, miss", notIn(0, 400), m -> x -> x.fewest(0, m, -1), -1);
    all("fewest, piece", new int[] {-2, MIN}, i -> x -> x.fewest(0, 0, i), -1);
    all("fewest, no such piece", new int[] {4, 5, MAX}, i -> x -> x.fewest(0, 0, i), -4);
    refused("fewest, a miss out of range ahead of no such piece", x -> x.fewest(0, 401, 4), -1);
    refused("fewest, no face ahead of no such piece", x -> x.fewest(Rich.FACES, 0, 4), -1);
    all("drawn, face", noFace(), f -> x -> x.drawn(f, 0, 0), -1);
    all("drawn, miss", notIn(0, 400), m -> x -> x.drawn(0, m, 0), -1);
    all("drawn, dot", NO_DOTS, at -> x -> x.drawn(0, 0, at), -1);
    all("differ, face", noFace(), f -> x -> x.differ(f, 0), -1);
    all("differ, miss", notIn(0, 400), m -> x -> x.differ(0, m), -1);
  }

  // ---- promises 19 to 23

  private static void shapes() {
    all("breadth", NO_DOTS, at -> x -> x.breadth(at, 0), -1);
    all("middle", NO_DOTS, at -> x -> x.breadth(at, 1), -1);
    all("breadth, what", notIn(0, 1), what -> x -> x.breadth(0, what), -1);
    all("stroke, face", noFace(), f -> x -> x.stroke(f, 1), -1);
    all("stroke", notIn(1, 16), n -> x -> x.stroke(0, n), -1);
    all("like, first", noFace(), f -> x -> x.like(f, 0), -1);
    all("like, second", noFace(), f -> x -> x.like(0, f), -1);
    refused("like, no face twice", x -> x.like(Rich.FACES, Rich.FACES), -1);
    all("butFor, first", noFace(), f -> x -> x.butFor(f, 0), -1);
    all("butFor, second", noFace(), f -> x -> x.butFor(0, f), -1);
    refused("butFor, boxes are unlike", x -> x.butFor(0, 5), -4);
    refused("butFor, the other way", x -> x.butFor(5, 0), -4);
    all("leader", noFace(), f -> x -> x.leader(f), -1);
  }

  // ---- promises 24 to 26

  /** Rich, with the colours 0 .. 8 and no more. */
  private static DotLines nineColours() {
    DotLines x = Rich.made();
    Due.show(x, "012345678");
    x.paint(0, 1);
    x.paint(0, 0);
    x.paint(1, 0);
    x.undo();
    return x;
  }

  private static void colours() {
    all("few", notIn(1, 4), k -> x -> x.few(k, 0), -1);
    all("few, what", notIn(0, 1), what -> x -> x.few(1, what), -1);
    all("makeFew", notIn(1, 4), k -> x -> x.makeFew(k), -1);
    for (int k = 1; k <= 4; k++) {
      int n = k;
      Rich.refused("few of nine", RefusalsTest::nineColours, x -> x.few(n, 0), -3);
      Rich.refused("few of nine, the set", RefusalsTest::nineColours, x -> x.few(n, 1), -3);
      Rich.refused("makeFew of nine", RefusalsTest::nineColours, x -> x.makeFew(n), -3);
    }
    Rich.refused("few 5 of nine", RefusalsTest::nineColours, x -> x.few(5, 0), -1);
    Rich.refused("few 0 of nine", RefusalsTest::nineColours, x -> x.few(0, 0), -1);
    Rich.refused("few of nine, what", RefusalsTest::nineColours, x -> x.few(4, 2), -1);
    Rich.refused("makeFew 0 of nine", RefusalsTest::nineColours, x -> x.makeFew(0), -1);
    Rich.refused("makeFew 5 of nine", RefusalsTest::nineColours, x -> x.makeFew(5), -1);
  }

  /** Rich, with eight faces of colour 1. */
  private static DotLines eightFaces() {
    DotLines x = Rich.made();
    Due.show(x, "101010101010101");
    x.paint(0, 0);
    x.undo();
    return x;
  }

  private static void pens() {
    all("pen, colour", notIn(0, 15), c -> x -> x.pen(c, -1), -1);
    all("pen", notIn(-1, 6), i -> x -> x.pen(0, i), -1);
    refused("pen of no faces", x -> x.pen(9, -1), -4);
    refused("pen of no faces, the first", x -> x.pen(9, 0), -4);
    refused("pen, the last of no faces", x -> x.pen(9, 6), -4);
    refused("pen of two faces, a third", x -> x.pen(0, 2), -4);
    refused("pen of two faces, a seventh", x -> x.pen(0, 6), -4);
    refused("pen of no faces, out of range", x -> x.pen(9, 7), -1);
    for (int i = -1; i < 7; i++) {
      int n = i;
      Rich.refused("pen of eight faces " + i, RefusalsTest::eightFaces, x -> x.pen(1, n), -3);
    }
    Rich.refused("pen of eight faces, 7", RefusalsTest::eightFaces, x -> x.pen(1, 7), -1);
    Rich.refused("pen of eight faces, -2", RefusalsTest::eightFaces, x -> x.pen(1, -2), -1);
  }

  // ---- promises 27 to 30

  /** Rich, with twelve rules. */
  private static DotLines fullOfRules() {
    DotLines x = Rich.made();
    for (int r = Rich.RULES; r < 12; r++) {
      Due.is("a rule more", x.rule(4), r);
    }
    return x;
  }

  private static void rules() {
    all("ruleFault, shelf", notIn(0, 7), d -> x -> x.ruleFault(d), -1);
    refused("ruleFault of nothing", x -> x.ruleFault(7), -11);
    refused("ruleFault of shorts", x -> x.ruleFault(1), -12);
    refused("ruleFault of ints", x -> x.ruleFault(2), -12);
    refused("ruleFault of a piece", x -> x.ruleFault(3), -12);
    refused("ruleFault of a pen", x -> x.ruleFault(6), -12);
    refused("a fault of a rule that is told", x -> x.ruleFault(5), 0);
    all("rule, shelf", notIn(0, 7), d -> x -> x.rule(d), -1);
    refused("rule of nothing", x -> x.rule(7), -11);
    refused("rule of shorts", x -> x.rule(1), -12);
    refused("rule of ints", x -> x.rule(2), -12);
    refused("rule of a piece", x -> x.rule(3), -12);
    refused("rule with a fault", x -> x.rule(5), -100);
    Rich.refused("rule that ends too early", () -> with(5, "A:s>"), x -> x.rule(5), -104);
    Rich.refused("rule with one bracket too many", () -> with(5, "A:(((((((((s>1)))))))))"), x -> x.rule(5), -110);
    Rich.refused("a thirteenth rule", RefusalsTest::fullOfRules, x -> x.rule(4), -2);
    Rich.refused("no shelf ahead of no room", RefusalsTest::fullOfRules, x -> x.rule(8), -1);
    Rich.refused("no shelf below ahead of no room", RefusalsTest::fullOfRules, x -> x.rule(-1), -1);
    Rich.refused("no room ahead of nothing", RefusalsTest::fullOfRules, x -> x.rule(7), -2);
    Rich.refused("no room ahead of another kind", RefusalsTest::fullOfRules, x -> x.rule(3), -2);
    Rich.refused("no room ahead of another sort", RefusalsTest::fullOfRules, x -> x.rule(1), -2);
    Rich.refused("no room ahead of a fault", RefusalsTest::fullOfRules, x -> x.rule(5), -2);
    all("tell", notIn(0, Rich.RULES - 1), r -> x -> x.tell(r, true), -1);
    all("tell not", notIn(0, Rich.RULES - 1), r -> x -> x.tell(r, false), -1);
    Rich.refused("tell a thirteenth", RefusalsTest::fullOfRules, x -> x.tell(12, false), -1);
    all("sign", noFace(), f -> x -> x.sign(f), -1);
    Rich.refused("sign, no rule is told", RefusalsTest::withoutRules, x -> x.sign(0), -4);
    Rich.refused("sign, no face ahead of no rule", RefusalsTest::withoutRules, x -> x.sign(Rich.FACES), -1);
  }

  private static DotLines withoutRules() {
    DotLines x = Rich.made();
    for (int r = 0; r < Rich.RULES; r++) {
      x.tell(r, false);
    }
    return x;
  }

  // ---- promises 31 to 34

  private static DotLines allUndone() {
    DotLines x = Rich.made();
    x.undo();
    x.undo();
    return x;
  }

  private static DotLines allDone() {
    DotLines x = Rich.made();
    x.redo();
    return x;
  }

  /** A new object with a picture, a rule and a change, yet no image. */
  private static DotLines withoutImage() {
    DotLines x = Due.of("012/345");
    x.tone(3, 7);
    x.touch(1);
    Due.text(x, 4, "A:s>0");
    x.rule(4);
    x.paint(0, 5);
    x.paint(1, 5);
    x.undo();
    return x;
  }

  private static void changes() {
    Rich.refused("undo, nothing left", RefusalsTest::allUndone, x -> x.undo(), -3);
    Rich.refused("redo, nothing left", RefusalsTest::allDone, x -> x.redo(), -3);
    Rich.refused("restore, no image", RefusalsTest::withoutImage, x -> x.restore(), -3);
    Rich.refused("a new object's undo", DotLines::new, x -> x.undo(), -3);
    Rich.refused("a new object's redo", DotLines::new, x -> x.redo(), -3);
    Rich.refused("a new object's restore", DotLines::new, x -> x.restore(), -3);
  }

  // ---- promise 36

  private static void keeping() {
    all("keep, shelf", notIn(0, 7), d -> x -> x.keep(d, 1, 0, 0, 0), -1);
    all("keep nothing, shelf", notIn(0, 7), d -> x -> x.keep(d, 0, 0, 0, 0), -1);
    for (int shelf = 0; shelf < 8; shelf++) {
      int d = shelf;
      String on = "keep on " + d;
      all(on + ", what", notIn(0, 1), what -> x -> x.keep(d, what, 0, 0, 0), -1);
      all(on + ", kind", notIn(0, 4), k -> x -> x.keep(d, 1, k, 0, 0), -1);
      all(on + ", face", noFace(), f -> x -> x.keep(d, 1, 0, f, 0), -1);
      int[] noPoints = {-1, -1000, MIN, 5, 999, 1005, 4005, 5000, 5004, 4999, 999999, MAX};
      all(on + ", points", noPoints, told -> x -> x.keep(d, 1, 0, 0, told), -1);
    }
  }

  // ---- promises 37, 38

  private static void rows() {
    all("row, shelf", notIn(0, 7), d -> x -> x.row(d, 0, 1), -1);
    for (int shelf = 0; shelf < 8; shelf++) {
      int d = shelf;
      all("row on " + d + ", sort", notIn(0, 2), sort -> x -> x.row(d, sort, 1), -1);
      all("row on " + d + " too long", new int[] {121, 122, MAX}, n -> x -> x.row(d, 1, n), -1);
      all("row on " + d + " below 0", new int[] {-1, -2, MIN}, n -> x -> x.row(d, 1, n), -14);
    }
    refused("row, no shelf ahead of below 0", x -> x.row(8, 0, -1), -1);
    refused("row, no shelf below ahead of below 0", x -> x.row(-1, 0, -1), -1);
    refused("row, no sort ahead of below 0", x -> x.row(0, 3, -1), -1);
    refused("row, no sort below ahead of below 0", x -> x.row(0, -1, -1), -1);
    all("put, shelf", notIn(0, 7), d -> x -> x.put(d, 0, 1), -1);
    refused("put, nothing", x -> x.put(7, 0, 1), -11);
    refused("put, a piece", x -> x.put(3, 0, 1), -12);
    refused("put, a pen", x -> x.put(6, 0, 1), -12);
    for (int d = 1; d < 3; d++) {
      int shelf = d;
      all("put, place", notIn(0, 2), i -> x -> x.put(shelf, i, 1), -13);
    }
    all("put in an empty row", new int[] {-1, 0, 1}, i -> x -> x.put(7, i, 1), -11);
    Rich.refused("put in a row of none", () -> withRow(0, 0), x -> x.put(7, 0, 1), -13);
    Rich.refused("put behind all that can be held", () -> withRow(2, 120), x -> x.put(7, 120, 1), -13);
    refused("put, no shelf ahead of no place", x -> x.put(8, -1, 1), -1);
    refused("put, nothing ahead of no place", x -> x.put(7, 120, 1), -11);
    refused("put, a piece ahead of no place", x -> x.put(3, -1, 1), -12);
  }

  private static DotLines withRow(int sort, int n) {
    DotLines x = Rich.made();
    x.row(7, sort, n);
    return x;
  }

  // ---- promise 39: 1 IllegalArgumentException, 2 IllegalStateException

  private static void elements() {
    all("element, shelf", notIn(0, 7), d -> x -> Due.thrown(x, d, 0), 1);
    refused("element, no shelf ahead of no place", x -> Due.thrown(x, 8, -1), 1);
    refused("element, no shelf below ahead of no place", x -> Due.thrown(x, -1, 500), 1);
    refused("element of nothing", x -> Due.thrown(x, 7, 0), 2);
    refused("element of nothing, no place", x -> Due.thrown(x, 7, -1), 2);
    refused("element of a piece", x -> Due.thrown(x, 3, 0), 2);
    refused("element of a pen", x -> Due.thrown(x, 6, 0), 2);
    all("element of shorts", notIn(0, 2), i -> x -> Due.thrown(x, 1, i), 2);
    all("element of ints", notIn(0, 2), i -> x -> Due.thrown(x, 2, i), 2);
    all("element of bytes", notIn(0, 20), i -> x -> Due.thrown(x, 0, i), 2);
    Rich.refused("element of a row of none", () -> withRow(1, 0), x -> Due.thrown(x, 7, 0), 2);
    Rich.refused("element behind all that can be held", () -> withRow(0, 120), x -> Due.thrown(x, 7, 120), 2);
  }

  // ---- promise 40: shelf 1 holds 3 shorts, 2 holds 3 ints

  private static void copies() {
    all("copy, shelf", notIn(0, 7), d -> x -> x.copy(d, 0, 1, 0, 1), -1);
    all("copy to shelf", notIn(0, 7), e -> x -> x.copy(1, 0, e, 0, 1), -1);
    refused("copy, no shelves", x -> x.copy(8, 0, 8, 0, 1), -1);
    refused("copy, no shelf ahead of nothing", x -> x.copy(7, 0, 8, 0, 1), -1);
    refused("copy, no shelf ahead of nothing, to", x -> x.copy(8, 0, 7, 0, 1), -1);
    refused("copy, no shelf ahead of a piece", x -> x.copy(3, 0, -1, 0, 1), -1);
    refused("copy, no shelf ahead of no place", x -> x.copy(1, 4, -1, 0, 1), -1);
    refused("copy of nothing", x -> x.copy(7, 0, 1, 0, 1), -11);
    refused("copy to nothing", x -> x.copy(1, 0, 7, 0, 1), -11);
    refused("copy of nothing to it", x -> x.copy(7, 0, 7, 0, 0), -11);
    refused("copy, nothing ahead of a piece", x -> x.copy(7, 0, 3, 0, 1), -11);
    refused("copy, nothing ahead of a piece, to", x -> x.copy(3, 0, 7, 0, 1), -11);
    refused("copy, nothing ahead of no place", x -> x.copy(7, -1, 1, 0, 1), -11);
    refused("copy of a piece", x -> x.copy(3, 0, 1, 0, 1), -12);
    refused("copy to a piece", x -> x.copy(1, 0, 3, 0, 1), -12);
    refused("copy of a piece to a pen", x -> x.copy(3, 0, 6, 0, 0), -12);
    refused("copy of a piece to itself", x -> x.copy(3, 0, 3, 0, 0), -12);
    refused("copy of bytes to shorts", x -> x.copy(0, 0, 1, 0, 1), -12);
    refused("copy of shorts to bytes", x -> x.copy(1, 0, 0, 0, 1), -12);
    refused("copy of shorts to ints", x -> x.copy(1, 0, 2, 0, 1), -12);
    refused("copy of ints to shorts", x -> x.copy(2, 0, 1, 0, 1), -12);
    refused("copy of none, of another sort", x -> x.copy(2, 0, 1, 0, 0), -12);
    refused("copy, another sort ahead of no place", x -> x.copy(1, -1, 2, 0, 1), -12);
    refused("copy, a piece ahead of no place", x -> x.copy(3, -1, 1, 0, 1), -12);
    all("copy from place", new int[] {-1, MIN, 3, 4, MAX}, i -> x -> x.copy(1, i, 1, 0, 1), -13);
    all("copy to place", new int[] {-1, MIN, 3, 4, MAX}, j -> x -> x.copy(1, 0, 1, j, 1), -13);
    all("copy of none from place", new int[] {-1, MIN, 4, MAX}, i -> x -> x.copy(1, i, 1, 0, 0), -13);
    all("copy of none to place", new int[] {-1, MIN, 4, MAX}, j -> x -> x.copy(1, 0, 1, j, 0), -13);
    all("copy of so many", new int[] {-1, MIN, 4, 5, 121, MAX}, n -> x -> x.copy(2, 0, 2, 0, n), -13);
    all("copy of so many from 2", new int[] {-1, MIN, 2, MAX}, n -> x -> x.copy(2, 2, 2, 0, n), -13);
    all("copy of so many to 2", new int[] {-1, MIN, 2, MAX}, n -> x -> x.copy(2, 0, 2, 2, n), -13);
    refused("copy from the end on", x -> x.copy(2, 3, 2, 0, 1), -13);
    refused("copy of a longer row", x -> x.copy(0, 0, 5, 0, 5), -13);
    refused("copy to a longer row", x -> x.copy(5, 0, 0, 0, 5), -13);
    refused("copy of places that go round", x -> x.copy(2, MAX, 2, 0, MAX), -13);
    refused("copy to places that go round", x -> x.copy(2, 0, 2, MAX, MAX), -13);
  }

  // ---- promises 41, 42

  private static void reachAndToss() {
    all("reach", notIn(0, 7), d -> x -> x.reach(d), -1);
    refused("reach of nothing", x -> x.reach(7), -11);
    all("toss", notIn(0, 7), d -> x -> x.toss(d), -1);
    refused("toss of nothing", x -> x.toss(7), -11);
    for (int d : new int[] {0, 1, 2, 4, 5}) {
      refused("reach of a row", x -> x.reach(d), -12);
      refused("toss of a row", x -> x.toss(d), -12);
    }
    int[] atOnePlace = {0, 4, 4000, 4004, 2002};
    for (int kind = 0; kind < 5; kind++) {
      int k = kind;
      for (int told : atOnePlace) {
        Rich.refused("toss of kind " + k + ", " + told, () -> withPiece(k, told), x -> x.toss(7), -15);
      }
    }
    Rich.refused("toss of a line", () -> withPiece(1, 2), x -> x.toss(7), -15);
    Rich.refused("toss of a line, the other way", () -> withPiece(1, 2000), x -> x.toss(7), -15);
  }

  private static DotLines withPiece(int kind, int told) {
    DotLines x = Rich.made();
    x.keep(7, 1, kind, 0, told);
    return x;
  }
}
