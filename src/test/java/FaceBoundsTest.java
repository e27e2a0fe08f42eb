/**
 * The bounds that part 1 of the terms names for FACES, HOLES, what LIES IN what and DEPTH, and the promises 9 to 11
 * and 35: one face and as many as there are dots, at the rim and away from it, by each TOUCH.
 */
public final class FaceBoundsTest {
  public static void main(String[] args) {
    oneFaceOfAll();
    asManyFacesAsDots();
    endsOfLinesAreNotTogether();
    bySidesAndByCorners();
    boxesAtEachRim();
    aSnakeIsOneFace();
    noHolesAtTheRim();
    aHoleNextToTheRim();
    asManyHolesAsThereCanBe();
    holesByTheOtherRule();
    oneHoleOfManyFaces();
    liesInOneHoleAlone();
    deepestRings();
    noNeighbours();
    neighboursByEachSide();
    asManyNeighboursAsThereCanBe();
    pairsFromTheFirstToTheLast();
    countsOfLeast();
    countsOfMost();
    Due.end();
  }

  private static void face(String what, DotLines x, int face, int... due) {
    for (int n = 0; n < due.length; n++) {
      Due.is(what + ", face(" + face + ", " + n + ")", x.face(face, n), due[n]);
    }
  }

  private static String all16By12(char colour) {
    StringBuilder text = new StringBuilder();
    for (int y = 0; y < 12; y++) {
      text.append(y == 0 ? "" : "/").append(colour).append("*16");
    }
    return text.toString();
  }

  /** All 192 dots by turns of two colours. */
  private static DotLines board() {
    DotLines x = Due.of(all16By12('0'));
    for (int at = 0; at < 192; at++) {
      if ((at % 16 + at / 16) % 2 == 1) {
        x.paint(at, 1);
      }
    }
    return x;
  }

  private static void oneFaceOfAll() {
    DotLines x = Due.of(all16By12('9'));
    Due.is("faces", x.count(2), 1);
    face("all", x, 0, 192, 9, 0, 0, 0, 16, 12, 0, 0, 0, 12, 56);
    Due.is("the first dot", x.faceOf(0), 0);
    Due.is("the last dot", x.faceOf(191), 0);
    Due.is("behind it", x.faceOf(192), -1);
    Due.is("no second face", x.face(1, 0), -1);
    x.touch(1);
    face("all by corners", x, 0, 192, 9, 0, 0, 0, 16, 12, 0, 0, 0, 12, 56);
  }

  private static void asManyFacesAsDots() {
    DotLines x = board();
    Due.is("192 faces", x.count(2), 192);
    for (int at = 0; at < 192; at++) {
      Due.is("face of " + at, x.faceOf(at), at);
      Due.is("first of " + at, x.face(at, 2), at);
    }
    face("the first", x, 0, 1, 0, 0, 0, 0, 1, 1, 0, 2, 0, 1, 4);
    face("the last", x, 191, 1, 0, 191, 15, 11, 1, 1, 0, 2, 0, 1, 4);
    face("one in the middle", x, 100, 1, 0, 100, 4, 6, 1, 1, 0, 4, 0, 1, 4);
    Due.is("behind the last", x.face(192, 0), -1);
    x.touch(1);
    Due.is("by corners", x.count(2), 2);
    Due.is("half of them", x.face(0, 0), 96);
    Due.is("and the other half", x.face(1, 0), 96);
    Due.is("behind the last by corners", x.face(2, 0), -1);
    Due.is("the last dot's", x.faceOf(191), 0);
  }

  private static void endsOfLinesAreNotTogether() {
    DotLines x = Due.of("0*15a/a0*15/0*15a");
    for (int touch = 0; touch < 2; touch++) {
      x.touch(touch);
      Due.is("15 and 16 are told next to each other", x.faceOf(15) == x.faceOf(16) ? 1 : 0, 0);
      Due.is("31 and 32, too", x.faceOf(31) == x.faceOf(16) ? 1 : 0, 0);
      Due.is("16 and 47", x.faceOf(47) == x.faceOf(16) ? 1 : 0, 0);
      Due.is("a dot alone", x.face(x.faceOf(15), 0), 1);
      Due.is("is no neighbour of the other end", x.pair(x.faceOf(15), x.faceOf(16), 0), 0);
    }
  }

  private static void bySidesAndByCorners() {
    String[] pictures = {"01/10", "10/01", "00/01", "011/101", "100/011"};
    int[] sides = {4, 4, 2, 4, 4};
    int[] corners = {2, 2, 2, 2, 2};
    for (int n = 0; n < pictures.length; n++) {
      DotLines x = Due.of(pictures[n]);
      Due.is("by sides " + pictures[n], x.count(2), sides[n]);
      x.touch(1);
      Due.is("by corners " + pictures[n], x.count(2), corners[n]);
    }
  }

  private static void boxesAtEachRim() {
    DotLines x = Due.of(all16By12('0'));
    int[] corners = {0, 15, 176, 191};
    for (int at : corners) {
      x.paint(at, 1);
    }
    int[][] due = {{0, 0}, {15, 0}, {0, 11}, {15, 11}};
    for (int n = 0; n < 4; n++) {
      int f = x.faceOf(corners[n]);
      face("corner " + corners[n], x, f, 1, 1, corners[n], due[n][0], due[n][1], 1, 1, 0, 1, 0, 1, 4);
    }
    face("what is between", x, x.faceOf(1), 188, 0, 1, 0, 0, 16, 12, 0, 4, 0, 12, 56);
    // the first dot is not the least x
    x = Due.of("0010/0110/1100");
    face("a stair", x, x.faceOf(2), 5, 1, 2, 0, 0, 3, 3, 0, 2);
  }

  private static void aSnakeIsOneFace() {
    DotLines x = Due.of("1*16/0*15a/1*16/a0*15/1*16/0*15a/1*16/a0*15/1*16/0*15a/1*16/a0*15");
    int[] joints = {31, 48, 95, 112, 159, 176};
    for (int at : joints) {
      x.paint(at, 1);
    }
    face("from the first line to the last", x, 0, 6 * 16 + 6, 1, 0, 0, 0, 16, 12, 0, 6, 0, 1);
    Due.is("with what is between its bends", x.count(2), 7);
  }

  // ---- holes

  private static void noHolesAtTheRim() {
    String[] pictures = {"101/111/111", "111/011/111", "111/110/111", "111/111/101", "011/111/111", "1", "111"};
    for (String picture : pictures) {
      for (int touch = 0; touch < 2; touch++) {
        DotLines x = Due.of(picture);
        x.touch(touch);
        Due.is("holes of " + picture, x.face(x.faceOf(x.dot(0) == 1 ? 0 : 1), 7), 0);
      }
    }
  }

  private static void aHoleNextToTheRim() {
    for (int touch = 0; touch < 2; touch++) {
      DotLines x = Due.of("111/101/111");
      x.touch(touch);
      Due.is("a ring as wide as the picture", x.face(0, 7), 1);
      Due.is("what is in it", x.pair(1, 0, 1), 1);
      x.paint(0, 2);
      // without its corner the ring is open by corners, yet closed by sides
      Due.is("the corner is taken out", x.face(1, 7), touch == 0 ? 0 : 1);
    }
  }

  private static void asManyHolesAsThereCanBe() {
    DotLines x = Due.of(all16By12('0'));
    for (int y = 1; y < 11; y += 2) {
      for (int u = 1; u < 15; u += 2) {
        x.paint(Due.at(u, y), 1);
      }
    }
    Due.is("by corners away from each other", x.face(0, 7), 35);
    x.touch(1);
    Due.is("and by sides", x.face(0, 7), 35);
    x = Due.of(all16By12('0'));
    for (int y = 1; y < 11; y++) {
      for (int u = 1; u < 15; u++) {
        if ((u + y) % 2 == 0) {
          x.paint(Due.at(u, y), 1);
        }
      }
    }
    x.touch(1);
    Due.is("every other dot inside, by sides", x.face(0, 7), 70);
    Due.is("one face of them all", x.face(1, 0), 70);
    Due.is("lies in no one hole", x.face(1, 9), 0);
    x.touch(0);
    Due.is("by sides they are 70 faces", x.count(3), 2);
    Due.is("and by corners one hole alone, as its faces hang together", x.face(0, 7), 1);
  }

  private static void holesByTheOtherRule() {
    String[] pictures = {"0*4/0110/0101/0011", "1110/1011/1101/0111", "11110/10010/11110/0*5", "1111/1010/1111"};
    int[] sides = {0, 1, 1, 1};
    int[] corners = {1, 2, 1, 1};
    for (int n = 0; n < pictures.length; n++) {
      DotLines x = Due.of(pictures[n]);
      int first = x.dot(0) == 1 ? 0 : 17;
      Due.is("touch 0: " + pictures[n], x.face(x.faceOf(first), 7), sides[n]);
      x.touch(1);
      Due.is("touch 1: " + pictures[n], x.face(x.faceOf(first), 7), corners[n]);
    }
  }

  private static void oneHoleOfManyFaces() {
    DotLines x = Due.of("11111/12341/15671/11111");
    Due.is("one hole", x.face(0, 7), 1);
    for (int f = 1; f < 7; f++) {
      Due.is("face " + f + " is in it", x.pair(f, 0, 1), 1);
      Due.is("its depth", x.face(f, 9), 1);
    }
    Due.is("they are in none of each other", x.pair(1, 2, 1), 0);
  }

  private static void liesInOneHoleAlone() {
    // by corners the twos are one face, in two holes of the ones
    DotLines x = Due.of("11111/12111/11211/11111");
    Due.is("touch 0: one hole, by corners", x.face(0, 7), 1);
    Due.is("each lies in it", x.face(1, 9) + x.face(2, 9), 2);
    x.touch(1);
    Due.is("touch 1: two holes, by sides", x.face(0, 7), 2);
    Due.is("one face", x.face(1, 0), 2);
    Due.is("that is in two holes lies in none", x.pair(1, 0, 1), 0);
    Due.is("its depth", x.face(1, 9), 0);
    x.paint(Due.at(2, 1), 2);
    Due.is("one hole again", x.face(0, 7), 1);
    Due.is("it lies in it", x.pair(1, 0, 1), 1);
    Due.is("the other way not", x.pair(0, 1, 1), 0);
  }

  private static void deepestRings() {
    DotLines x = Due.of(all16By12('a'));
    int paints = 0;
    for (int ring = 1; ring < 6; ring += 2) {
      paints += paintRing(x, ring);
    }
    Due.is("dots painted", paints, 44 + 28 + 12);
    Due.is("six rings", x.count(2), 6);
    int[] sizes = {52, 44, 36, 28, 20, 12};
    for (int f = 0; f < 6; f++) {
      Due.is("size " + f, x.face(f, 0), sizes[f]);
      Due.is("depth " + f, x.face(f, 9), f);
      Due.is("holes " + f, x.face(f, 7), f == 5 ? 0 : 1);
      Due.is("neighbours " + f, x.face(f, 8), f == 0 || f == 5 ? 1 : 2);
      for (int g = 0; g < 6; g++) {
        Due.is(f + " in " + g, x.pair(f, g, 1), f == g ? -1 : f > g ? 1 : 0);
      }
    }
  }

  private static int paintRing(DotLines x, int ring) {
    int paints = 0;
    for (int y = ring; y < 12 - ring; y++) {
      for (int u = ring; u < 16 - ring; u++) {
        if (Math.min(Math.min(u, 15 - u), Math.min(y, 11 - y)) == ring) {
          x.paint(Due.at(u, y), 11);
          paints++;
        }
      }
    }
    return paints;
  }

  // ---- neighbours

  private static void noNeighbours() {
    DotLines x = Due.of("0*16");
    Due.is("a face of all has none", x.face(0, 8), 0);
    x = Due.of("10/02");
    Due.is("by a corner alone they are none", x.pair(x.faceOf(0), x.faceOf(17), 0), 0);
    x.touch(1);
    Due.is("by touch 1, too", x.pair(x.faceOf(0), x.faceOf(17), 0), 0);
  }

  private static void neighboursByEachSide() {
    // one dot with another face at each side and each corner
    DotLines x = Due.of("123/405/678");
    int middle = x.faceOf(17);
    int[] sides = {1, 16, 18, 33};
    int[] corners = {0, 2, 32, 34};
    for (int n = 0; n < 4; n++) {
      Due.is("by a side", x.pair(middle, x.faceOf(sides[n]), 0), 1);
      Due.is("by a side, the other way", x.pair(x.faceOf(sides[n]), middle, 0), 1);
      Due.is("by a corner", x.pair(middle, x.faceOf(corners[n]), 0), 0);
      Due.is("by a corner, the other way", x.pair(x.faceOf(corners[n]), middle, 0), 0);
    }
    Due.is("four", x.face(middle, 8), 4);
    Due.is("of a corner's two", x.face(0, 8), 2);
    Due.is("of a side's three", x.face(1, 8), 3);
  }

  private static void asManyNeighboursAsThereCanBe() {
    DotLines x = Due.of("5*16/1234123412341234");
    Due.is("all along a side", x.face(0, 8), 16);
    Due.is("one of them", x.face(2, 8), 3);
    Due.is("the last one", x.face(16, 8), 2);
    x = Due.of("1213/5*4/1415");
    Due.is("a neighbour by several sides is one, and its own colour beside it is itself", x.face(4, 8), 7);
  }

  private static void pairsFromTheFirstToTheLast() {
    DotLines x = board();
    Due.is("0 and 1", x.pair(0, 1, 0), 1);
    Due.is("190 and 191", x.pair(190, 191, 0), 1);
    Due.is("191 and 190", x.pair(191, 190, 0), 1);
    Due.is("175 and 191, one under the other", x.pair(175, 191, 0), 1);
    Due.is("15 and 16, at ends of lines", x.pair(15, 16, 0), 0);
    Due.is("191 and 192", x.pair(191, 192, 0), -1);
    Due.is("-1 and 0", x.pair(-1, 0, 0), -1);
    Due.is("191 twice", x.pair(191, 191, 0), -1);
    Due.is("191 twice, in", x.pair(191, 191, 1), -1);
    Due.is("191 in 0", x.pair(191, 0, 1), 0);
  }

  // ---- promise 35

  private static void counts(String what, DotLines x, int... due) {
    for (int n = 0; n < due.length; n++) {
      Due.is(what + ", count(" + n + ")", x.count(n), due[n]);
    }
    Due.is(what + ", count(9)", x.count(9), -1);
    Due.is(what + ", count(-1)", x.count(-1), -1);
  }

  private static void countsOfLeast() {
    counts("new", new DotLines(), 1, 1, 1, 1, 1, 0, 0, 0, 0);
    counts("of one colour", Due.of(all16By12('f')), 16, 12, 1, 1, 1, 0, 0, 0, 0);
  }

  private static void countsOfMost() {
    DotLines x = board();
    Due.text(x, 1, "A:s>0");
    for (int r = 0; r < 12; r++) {
      x.rule(1);
    }
    // sides: 15 in each of 12 lines, 16 between each two of them
    counts("every other dot", x, 16, 12, 192, 2, 1, 12, 12, 20, 15 * 12 + 16 * 11);
    for (int r = 0; r < 12; r++) {
      x.tell(r, false);
      Due.is("told", x.count(6), 11 - r);
      Due.is("rules", x.count(5), 12);
    }
    x = Due.of("0123456789abcdef");
    counts("every colour", x, 16, 1, 16, 16, 1, 0, 0, 0, 15);
    // lines of 1 to 4 dots, the dots of one line by corners as like as the line is
    x = Due.of("1000/2200/3330/4444");
    counts("unlike ones", x, 4, 4, 5, 5, 5, 0, 0, 0, 1 + 1 + 1 + 2 + 3 + 4);
  }
}
