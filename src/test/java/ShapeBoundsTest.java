/**
 * The bounds that part 4 of the terms names, and the promises 19 to 26: BREADTHS, the MIDDLE, STROKES, what is LIKE,
 * FEW COLOURS of 8 that occur, 7 FACES for a PEN.
 */
public final class ShapeBoundsTest {
  private static final String ALL = "1*16/1*16/1*16/1*16/1*16/1*16/1*16/1*16/1*16/1*16/1*16/1*16";

  public static void main(String[] args) {
    breadthsFrom1To12();
    breadthsAtTheRim();
    breadthsBesideASquare();
    middlesAtTheRim();
    middlesAsGreat();
    middlesOfOneFaceAndAnother();
    strokesFrom1To16();
    widerThanTwice();
    likeItself();
    likeByEveryTurn();
    unlikeByOneDot();
    butForNone();
    butForAsManyAsThereAre();
    leadersOfTheFirstAndTheLast();
    fewFrom1To4();
    fewOfEight();
    fewOfSeveralSets();
    fewOfSeveralKept();
    fewAtTheEndsOfTones();
    madeFew();
    pensOfSeven();
    pensOfOne();
    theFirstOrder();
    Due.end();
  }

  private static String square(int k) {
    StringBuilder text = new StringBuilder();
    for (int y = 0; y < k; y++) {
      text.append(y == 0 ? "" : "/").append("1*").append(k);
    }
    return text.toString();
  }

  // ---- promise 19

  private static void breadthsFrom1To12() {
    for (int k = 1; k <= 12; k++) {
      DotLines x = Due.of(square(k));
      Due.is("greatest of a square of " + k, x.face(0, 10), k);
      int[] corners = {0, k - 1, 16 * (k - 1), 17 * (k - 1)};
      for (int at : corners) {
        Due.is("a square of " + k + ", dot " + at, x.breadth(at, 0), k);
      }
    }
    DotLines x = Due.of(ALL);
    for (int at = 0; at < 192; at++) {
      Due.is("no more than it is high, dot " + at, x.breadth(at, 0), 12);
    }
    Due.is("behind the last", x.breadth(192, 0), -1);
    Due.is("ahead of the first", x.breadth(-1, 0), -1);
    Due.is("what -1", x.breadth(0, -1), -1);
    Due.is("what 2", x.breadth(0, 2), -1);
  }

  private static void breadthsAtTheRim() {
    DotLines x = Due.of(ALL);
    x.paint(Due.at(7, 5), 2);
    // seven columns to its left, eight to its right, five lines above it, six below
    Due.is("upper left", x.breadth(0, 0), 7);
    Due.is("upper right", x.breadth(15, 0), 8);
    Due.is("lower left", x.breadth(176, 0), 7);
    Due.is("lower right", x.breadth(191, 0), 8);
    Due.is("above it", x.breadth(Due.at(7, 4), 0), 5);
    Due.is("below it", x.breadth(Due.at(7, 6), 0), 6);
    Due.is("itself", x.breadth(Due.at(7, 5), 0), 1);
    Due.is("greatest", x.face(0, 10), 8);
  }

  private static void breadthsBesideASquare() {
    // a dot at the middle of each side of a square of three
    DotLines x = Due.of("00100/01110/11111/01110/00100");
    x.touch(1);
    int[] beside = {2, 32, 36, 66};
    for (int at : beside) {
      Due.is("beside the square, dot " + at, x.breadth(at, 0), 1);
    }
    for (int y = 1; y < 4; y++) {
      for (int u = 1; u < 4; u++) {
        Due.is("in the square", x.breadth(Due.at(u, y), 0), 3);
      }
    }
    Due.is("what is round it", x.breadth(0, 0), 1);
    Due.is("its corner", x.breadth(1, 0), 1);
  }

  private static void middlesAtTheRim() {
    DotLines x = Due.of("1*16");
    for (int at = 0; at < 16; at++) {
      Due.is("one high: all are, dot " + at, x.breadth(at, 1), 1);
    }
    x = Due.of(ALL);
    // r is 5 in the lines 5 and 6 from 5 to 10
    Due.is("by the corner", x.breadth(0, 1), 1);
    Due.is("beside the corner", x.breadth(1, 1), 0);
    Due.is("of the greatest r", x.breadth(Due.at(5, 5), 1), 1);
    Due.is("its last", x.breadth(Due.at(10, 6), 1), 1);
    Due.is("beside the greatest", x.breadth(Due.at(4, 5), 1), 0);
    Due.is("above the greatest", x.breadth(Due.at(5, 4), 1), 0);
    Due.is("below the greatest", x.breadth(Due.at(10, 7), 1), 0);
    Due.is("beside the greatest, right", x.breadth(Due.at(11, 6), 1), 0);
  }

  private static void middlesAsGreat() {
    // of two beside each other with one r both are of the middle
    DotLines x = Due.of("1111/1111/1111");
    Due.is("the first", x.breadth(17, 1), 1);
    Due.is("the second", x.breadth(18, 1), 1);
    Due.is("beside them", x.breadth(16, 1), 0);
    x = Due.of("11/11");
    for (int at : new int[] {0, 1, 16, 17}) {
      Due.is("r is 0 for all, dot " + at, x.breadth(at, 1), 1);
    }
    // by a corner only a greater one is near: those do not count
    x = Due.of("1110/1111/1110/0001");
    Due.is("greatest", x.breadth(17, 1), 1);
    Due.is("a corner", x.breadth(0, 1), 1);
    Due.is("a side", x.breadth(18, 1), 0);
    Due.is("beyond the side", x.breadth(19, 1), 1);
  }

  private static void middlesOfOneFaceAndAnother() {
    // a square of three, a bar, and a square of three: asked by turns
    DotLines x = Due.of("1112333/1112333/1112333");
    for (int y = 0; y < 3; y++) {
      for (int u = 0; u < 7; u++) {
        boolean side = u != 3 && (u % 4 == 1) != (y == 1);
        Due.is("middle " + u + ", " + y, x.breadth(Due.at(u, y), 1), side ? 0 : 1);
        Due.is("breadth " + u + ", " + y, x.breadth(Due.at(u, y), 0), u == 3 ? 1 : 3);
      }
    }
    Due.is("of a square, behind another face", x.face(1, 10) + x.breadth(17, 1), 2);
  }

  // ---- promise 20

  private static void strokesFrom1To16() {
    DotLines x = Due.of("111/222");
    for (int n = 1; n <= 16; n++) {
      Due.is("a bar with " + n, x.stroke(0, n), 1);
    }
    Due.is("0", x.stroke(0, 0), -1);
    Due.is("17", x.stroke(0, 17), -1);
    for (int k = 1; k <= 7; k++) {
      DotLines bar = bar(2 * k + 1, k);
      for (int n = 1; n <= 16; n++) {
        Due.is("a bar as broad as " + k + " with " + n, bar.stroke(0, n), n >= k ? 1 : 0);
      }
    }
    x = Due.of(ALL);
    for (int n = 1; n <= 16; n++) {
      Due.is("all with " + n, x.stroke(0, n), 0);
    }
  }

  private static DotLines bar(int wide, int high) {
    StringBuilder text = new StringBuilder("1*" + wide);
    for (int y = 1; y < high; y++) {
      text.append("/1*").append(wide);
    }
    return Due.of(text.toString());
  }

  private static void widerThanTwice() {
    for (int k = 1; k <= 5; k++) {
      Due.is("twice as wide as " + k, bar(2 * k, k).stroke(0, k), 0);
      Due.is("one wider", bar(2 * k + 1, k).stroke(0, k), 1);
      Due.is("twice as high as " + k, bar(k, 2 * k).stroke(0, k), 0);
      Due.is("one higher", bar(k, 2 * k + 1).stroke(0, k), 1);
    }
    Due.is("the box counts, not the way: three wide", Due.of("110/011").stroke(0, 1), 1);
    Due.is("two wide and high", Due.of("10/11").stroke(0, 1), 0);
  }

  // ---- promises 21 to 23

  private static void likeItself() {
    DotLines x = Due.of("0120/1102/3304");
    for (int f = 0; f < x.count(2); f++) {
      Due.is("itself", x.like(f, f), 1);
      Due.is("but for none", x.butFor(f, f), 0);
    }
    Due.is("of no face", x.like(x.count(2), x.count(2)), -1);
  }

  private static void likeByEveryTurn() {
    // an F of five, which is like none of its own turns, in each of its eight places
    String[] ways = {"011/110/010", "010/111/001", "010/011/110", "100/111/010",
        "110/011/010", "001/111/010", "010/110/011", "010/111/100"};
    for (String way : ways) {
      String[] line = way.split("/");
      DotLines x = Due.of("0220" + line[0] + "/2200" + line[1] + "/0200" + line[2]);
      int f = x.faceOf(1);
      int g = -1;
      for (int at = 36; at >= 4; at--) {
        g = x.dot(at) == 1 ? x.faceOf(at) : g;
      }
      Due.is("F and " + way, x.like(f, g), 1);
      Due.is(way + " and F", x.like(g, f), 1);
      Due.is("but for none only as it is", x.butFor(f, g) == 0 ? 1 : 0, way.equals(ways[0]) ? 1 : 0);
    }
  }

  private static void unlikeByOneDot() {
    DotLines x = Due.of("111022/101020/111222");
    Due.is("other boxes", x.like(x.faceOf(0), x.faceOf(4)), 0);
    x = Due.of("1110222/1010202/1110220");
    int ring = x.faceOf(0);
    int open = x.faceOf(4);
    Due.is("one dot less", x.like(ring, open), 0);
    Due.is("but for one", x.butFor(ring, open), 1);
    x = Due.of("11100222/00100200/00100200");
    Due.is("mirrored", x.like(x.faceOf(0), x.faceOf(5)), 1);
    x = Due.of("11100222/00100200/00100220");
    Due.is("mirrored but for one", x.like(x.faceOf(0), x.faceOf(5)), 0);
  }

  private static void butForNone() {
    DotLines x = Due.of("1102/2011");
    int a = x.faceOf(0);
    int b = x.faceOf(18);
    Due.is("moved one on the other", x.butFor(a, b), 0);
    Due.is("boxes as wide, not as high", Due.of("11/23/23").butFor(0, 1), -4);
    Due.is("boxes as high, not as wide", Due.of("112/112").butFor(0, 1), -4);
    Due.is("turned boxes", Due.of("112/002").butFor(0, 1), -4);
  }

  private static void butForAsManyAsThereAre() {
    // by corners: the two diagonals of a box of two
    DotLines x = Due.of("10/01");
    x.touch(1);
    Due.is("all four", x.butFor(0, 1), 4);
    Due.is("the other way", x.butFor(1, 0), 4);
    x = Due.of("0*16/1*16");
    Due.is("a line and a line", x.butFor(0, 1), 0);
  }

  private static void leadersOfTheFirstAndTheLast() {
    DotLines x = Due.of(ALL);
    for (int at = 0; at < 192; at++) {
      if ((at % 16 + at / 16) % 2 == 1) {
        x.paint(at, 2);
      }
    }
    Due.is("the first leads itself", x.leader(0), 0);
    Due.is("the last of 192", x.leader(191), 0);
    Due.is("behind the last", x.leader(192), -1);
    Due.is("one for all", x.count(4), 1);
    x = Due.of("1000/2200/3330/4444");
    for (int f = 0; f < 5; f++) {
      Due.is("unlike all others " + f, x.leader(f), f);
    }
    Due.is("as many as faces", x.count(4), 5);
  }

  // ---- promises 24, 25

  private static void fewFrom1To4() {
    DotLines x = Due.of("0123");
    int[] sums = {6 * 289, 2 * 289, 289, 0};
    int[] sets = {2, 5, 7, 15};
    for (int k = 1; k <= 4; k++) {
      Due.is("the sum with " + k, x.few(k, 0), sums[k - 1]);
      Due.is("the set with " + k, x.few(k, 1), sets[k - 1]);
    }
    Due.is("with 0", x.few(0, 0), -1);
    Due.is("with 5", x.few(5, 0), -1);
    Due.is("made with 0", x.makeFew(0), -1);
    Due.is("made with 5", x.makeFew(5), -1);
    x = new DotLines();
    for (int k = 1; k <= 4; k++) {
      Due.is("at most " + k + ": one colour is all", x.few(k, 1), 1);
      Due.is("and none is far", x.few(k, 0), 0);
      Due.is("and none is made", x.makeFew(k), 0);
    }
  }

  private static void fewOfEight() {
    DotLines x = Due.of("89abcdef");
    Due.is("eight occur", x.count(3), 8);
    Due.is("four are one away", x.few(4, 0), 4 * 289);
    // f is next to e, d to e, c to b, a to b: then 8 and 9 may stay
    Due.is("the least set", x.few(4, 1), (1 << 8) + (1 << 9) + (1 << 11) + (1 << 14));
    x = Due.of("89abcdef7");
    Due.is("nine occur", x.few(4, 0), -3);
    Due.is("nine occur, the set", x.few(1, 1), -3);
    Due.is("nine occur, made", x.makeFew(1), -3);
    x.paint(8, 8);
    Due.is("eight again", x.few(4, 0), 4 * 289);
    Due.is("made of them", x.makeFew(4), 4);
    Due.is("four occur", x.count(3), 4);
    x = Due.of("0123456789abcdef");
    Due.is("sixteen occur", x.few(1, 0), -3);
  }

  private static void fewOfSeveralSets() {
    Due.is("either of two", Due.of("0f").few(1, 1), 1);
    Due.is("either of the last two", Due.of("ef").few(1, 1), 1 << 14);
    Due.is("1 of 0, 1, 2", Due.of("012").few(1, 1), 2);
    Due.is("1 or 2 of 0 .. 3", Due.of("0123").few(1, 1), 2);
    Due.is("any two of 0, 1, 2", Due.of("012").few(2, 1), 3);
    // 0 and 2, 1 and 2, 0 and 3, 1 and 3: 5 is the least as bits
    Due.is("two of 0 .. 3", Due.of("0123").few(2, 1), 5);
    DotLines x = Due.of("0123");
    for (int c = 0; c < 4; c++) {
      x.tone(c, 9);
    }
    for (int k = 1; k <= 4; k++) {
      Due.is("of one tone the least, alone", x.few(k, 1), 1);
    }
    Due.is("all made of it", x.makeFew(4), 3);
  }

  private static void fewOfSeveralKept() {
    // 1 is as far from 0 as from 2: it becomes 0
    DotLines x = Due.of("0012/0012/0022");
    Due.is("0 and 2 are kept", x.few(2, 1), 5);
    Due.is("two dots", x.makeFew(2), 2);
    Due.is("the least", x.dot(2), 0);
    x = Due.of("0012/0012/0022");
    x.tone(0, 34);
    x.tone(2, 0);
    x.makeFew(2);
    Due.is("the least by number", x.dot(2), 0);
  }

  private static void fewAtTheEndsOfTones() {
    DotLines x = Due.of(ALL);
    x.paint(0, 2);
    x.tone(1, 255);
    x.tone(2, 0);
    Due.is("one dot as far as there is", x.few(1, 0), 255 * 255);
    Due.is("the other is kept", x.few(1, 1), 2);
    for (int at = 1; at < 96; at++) {
      x.paint(at, 2);
    }
    Due.is("half of them", x.few(1, 0), 96 * 255 * 255);
    Due.is("the least", x.few(1, 1), 2);
    Due.is("made", x.makeFew(1), 96);
  }

  private static void madeFew() {
    // 0123, 0122, 0022, 0000
    DotLines x = Due.of("0123");
    int[] due = {2, 1, 1, 0};
    for (int k = 4; k >= 1; k--) {
      Due.is("made of " + k, x.makeFew(k), due[k - 1]);
      Due.is("a change, if a dot is of another colour", x.count(7), 4 - k);
      Due.is("again", x.makeFew(k), 0);
      Due.is("what changes no dot is none", x.count(7), 4 - k);
    }
  }

  // ---- promise 26

  private static void pensOfSeven() {
    DotLines x = Due.of("1010101010101000/0*16");
    Due.is("to the seventh", x.pen(1, -1), 12);
    for (int i = 0; i < 7; i++) {
      Due.is("order " + i, x.pen(1, i), i == 0 ? 0 : i + 1);
    }
    Due.is("7", x.pen(1, 7), -1);
    Due.is("-2", x.pen(1, -2), -1);
    x.paint(14, 1);
    for (int i = -1; i < 7; i++) {
      Due.is("eight faces, " + i, x.pen(1, i), -3);
    }
    Due.is("eight faces, 7", x.pen(1, 7), -1);
    x.paint(13, 1);
    Due.is("seven again", x.pen(1, -1), 12);
    Due.is("the other colour", x.pen(0, -1), 1);
    Due.is("no colour behind the last", x.pen(16, -1), -1);
    Due.is("no colour ahead of the first", x.pen(-1, -1), -1);
    Due.is("no faces of the last", x.pen(15, -1), -4);
  }

  private static void pensOfOne() {
    DotLines x = Due.of(ALL);
    Due.is("at 0, 0 at once", x.pen(1, -1), 0);
    Due.is("the one", x.pen(1, 0), 0);
    Due.is("no second", x.pen(1, 1), -4);
    Due.is("no seventh", x.pen(1, 6), -4);
    x.paint(191, 2);
    Due.is("as far as there is", x.pen(2, -1), 26);
    Due.is("its face", x.pen(2, 0), 1);
  }

  private static void theFirstOrder() {
    // at corners of a square of 2 round the beginning's diagonal: both ways round are 2, 2, 2
    DotLines x = Due.of("101/000/101");
    Due.is("round", x.pen(1, -1), 6);
    int[] due = {0, 2, 4, 3};
    for (int i = 0; i < 4; i++) {
      Due.is("order " + i, x.pen(1, i), x.faceOf(new int[] {0, 2, 34, 32}[i]));
      Due.is("by its number " + i, x.pen(1, i), due[i]);
    }
  }
}
