/**
 * The bounds that part 3 of the terms names, and the promises 12 to 18: corner points, STEPS, TURNS round to
 * POINT 0, corners that touch, COST, MISS, pieces from at least 3 on, what is strictly to the right.
 */
public final class BorderBoundsTest {
  private static final String ALL = "1*16/1*16/1*16/1*16/1*16/1*16/1*16/1*16/1*16/1*16/1*16/1*16";

  public static void main(String[] args) {
    pointsUpTo16And12();
    fourStepsAtLeast();
    theLongestBorders();
    theTurnAtPoint0();
    rightOrLeftWhereFacesTouch();
    closedWhereItIsAboutToGoRightAgain();
    costsFrom0To99();
    zeroFirst();
    roundTheRowOneCornerAlone();
    roundTheRowWithNone();
    cornersByTrial();
    pointsWithoutATurn();
    everyPieceOfOneStep();
    jUpToAllSteps();
    missesFrom0To400();
    farFromOneEnd();
    atLeastThree();
    theIthPiece();
    theLongestFirst();
    piecesByTrial();
    missesOfFewest();
    drawnStrictlyToTheRight();
    drawnByLinesUpAndDown();
    drawnAtTheRim();
    differFromNoneToAll();
    Due.end();
  }

  private static void point(DotLines x, int face, int i, int... due) {
    for (int what = 0; what < due.length; what++) {
      Due.is("step(" + face + ", " + i + ", " + what + ")", x.step(face, i, what), due[what]);
    }
  }

  // ---- promise 12

  private static void pointsUpTo16And12() {
    DotLines x = Due.of(ALL);
    Due.is("steps", x.face(0, 11), 56);
    point(x, 0, 0, 0, 0, 0, 2);
    point(x, 0, 15, 0, 15, 0, 1);
    point(x, 0, 16, 1, 16, 0, 2);
    point(x, 0, 27, 1, 16, 11, 1);
    point(x, 0, 28, 2, 16, 12, 2);
    point(x, 0, 43, 2, 1, 12, 1);
    point(x, 0, 44, 3, 0, 12, 2);
    point(x, 0, 55, 3, 0, 1, 1);
    point(x, 0, 56, -1, -1, -1, -1);
    point(x, 0, -1, -1, -1, -1, -1);
    x.paint(191, 2);
    point(x, 1, 0, 0, 15, 11, 2);
    point(x, 1, 1, 1, 16, 11, 2);
    point(x, 1, 2, 2, 16, 12, 2);
    point(x, 1, 3, 3, 15, 12, 2);
    point(x, 1, 4, -1, -1, -1, -1);
  }

  private static void fourStepsAtLeast() {
    DotLines x = new DotLines();
    Due.is("steps", x.face(0, 11), 4);
    for (int i = 0; i < 4; i++) {
      Due.is("step " + i, x.step(0, i, 0), i);
      Due.is("turn " + i, x.step(0, i, 3), 2);
    }
  }

  /** Each step leads to the next point, and the last one to point 0; each step has the face on its right alone. */
  private static void closed(String what, DotLines x, int face, int steps) {
    int[] across = {1, 0, -1, 0};
    int[] down = {0, 1, 0, -1};
    Due.is(what + ": steps", x.face(face, 11), steps);
    int ahead = x.step(face, steps - 1, 0);
    int turns = 0;
    for (int i = 0; i < steps; i++) {
      int way = x.step(face, i, 0);
      int next = i + 1 == steps ? 0 : i + 1;
      Due.is(what + ": x behind " + i, x.step(face, i, 1) + across[way], x.step(face, next, 1));
      Due.is(what + ": y behind " + i, x.step(face, i, 2) + down[way], x.step(face, next, 2));
      int turn = x.step(face, i, 3) - 1;
      Due.is(what + ": turn at " + i, (ahead + turn + 4) % 4, way);
      turns += turn;
      ahead = way;
    }
    Due.is(what + ": once round", turns, 4);
  }

  private static DotLines comb() {
    DotLines x = Due.of(ALL);
    for (int y = 1; y < 12; y++) {
      for (int u = 1; u < 16; u += 2) {
        x.paint(Due.at(u, y), 2);
      }
    }
    return x;
  }

  private static void theLongestBorders() {
    DotLines x = comb();
    // the line above, 16 and 1; 8 teeth of 11 with both sides and an end; between them 7 gaps, and one at the rim
    closed("a comb", x, 0, 16 + 1 + 8 * (2 * 11 + 1) + 8 + 1);
    x.touch(1);
    closed("a comb by corners", x, 0, 210);
    closed("all", Due.of(ALL), 0, 56);
  }

  private static void theTurnAtPoint0() {
    String[] pictures = {"1", "11/11", "010/111/010", "0011/0110/1100", "101/010/101"};
    for (String picture : pictures) {
      for (int touch = 0; touch < 2; touch++) {
        DotLines x = Due.of(picture);
        x.touch(touch);
        for (int f = 0; f < x.count(2); f++) {
          Due.is("from the last step, up, to the right: " + picture, x.step(f, 0, 3), 2);
          Due.is("the last step", x.step(f, x.face(f, 11) - 1, 0), 3);
        }
      }
    }
  }

  private static void rightOrLeftWhereFacesTouch() {
    // come upon from each side: to the left, down, up, right
    String[] pictures = {"110/101/111", "111/101/110", "111/101/011", "011/101/111"};
    for (String picture : pictures) {
      DotLines x = Due.of(picture);
      int f = x.faceOf(1);
      closed("touch 0 " + picture, x, f, 16);
      Due.is("in no hole", x.face(f, 7), 0);
      x.touch(1);
      f = x.faceOf(1);
      closed("touch 1 " + picture, x, f, 12);
      Due.is("in a hole", x.face(f, 7), 1);
    }
    DotLines x = Due.of("110/101/111");
    point(x, 0, 3, 2, 2, 1, 2);
    point(x, 0, 7, 0, 2, 1, 2);
    x.touch(1);
    point(x, 0, 3, 0, 2, 1, 0);
  }

  private static void closedWhereItIsAboutToGoRightAgain() {
    // by corners the border comes through the middle twice, and to point 0 once
    DotLines x = Due.of("1010/0100/1010");
    x.touch(1);
    closed("a cross of five", x, 0, 20);
    x = Due.of("10/01");
    x.touch(1);
    closed("two by a corner", x, 0, 8);
    point(x, 0, 2, 0, 1, 1, 0);
    point(x, 0, 6, 2, 1, 1, 0);
    x.touch(0);
    closed("each alone", x, 0, 4);
  }

  // ---- promises 13, 14

  private static void cornered(DotLines x, int face, int cost, int least, int... due) {
    Due.is("corners with " + cost, x.corners(face, cost), least);
    for (int i = 0; i < due.length; i++) {
      Due.is("cornered with " + cost + ", point " + i, x.cornered(face, cost, i), due[i]);
    }
    Due.is("no such point", x.cornered(face, cost, due.length), -1);
  }

  private static void costsFrom0To99() {
    DotLines x = new DotLines();
    cornered(x, 0, 0, 20, 0, 1, 0, 1);
    cornered(x, 0, 99, 100, 0, 0, 0, 0);
    for (int cost = 0; cost <= 99; cost++) {
      Due.is("a square with " + cost, x.corners(0, cost), Math.min(100, 2 * cost + 20));
    }
    Due.is("below", x.corners(0, -1), -1);
    Due.is("above", x.corners(0, 100), -1);
    Due.is("below, cornered", x.cornered(0, -1, 0), -1);
    Due.is("above, cornered", x.cornered(0, 100, 0), -1);
  }

  private static void zeroFirst() {
    // with 40 none, one and two corners are as dear
    cornered(new DotLines(), 0, 39, 98, 0, 1, 0, 1);
    cornered(new DotLines(), 0, 40, 100, 0, 0, 0, 0);
    cornered(new DotLines(), 0, 41, 100, 0, 0, 0, 0);
  }

  private static void roundTheRowOneCornerAlone() {
    // turns to the right, but for the third; the points 5 and 7 have none
    DotLines x = Due.of("10/11");
    cornered(x, 0, 0, 30, 0, 1, 0, 1, 0, 0, 1, 0);
    // the first and the last turn are next to each other: at 39 the first and the last but one
    cornered(x, 0, 39, 118, 1, 0, 0, 0, 1, 0, 0, 0);
  }

  private static void roundTheRowWithNone() {
    DotLines x = Due.of("10/11");
    // six turns of 10, and 15 at four of them: the last one's next is the first
    cornered(x, 0, 40, 120, 0, 0, 0, 0, 0, 0, 0, 0);
    cornered(x, 0, 99, 120, 0, 0, 0, 0, 0, 0, 0, 0);
  }

  /** Shapes whose first and last turns are of all ways that there are, a greater one ahead of a smaller one. */
  private static void cornersByTrial() {
    String[] pictures = {"1", "0110/1100", "1100/0110", "010/111/010", "0011/0110/1100", "111/101/101", "101/111/101",
        "111/001/111", "1*16/1*16/1*16"};
    DotLines x = Due.of("101010/111111");
    for (String picture : pictures) {
      DotLines alone = Due.of(picture);
      int f = alone.faceOf(alone.dot(0) == 1 ? 0 : picture.indexOf('1'));
      x.corners(0, 50);
      Due.text(x, 0, picture);
      x.picture(0);
      for (int cost = 0; cost <= 99; cost += 11) {
        tried(x, f, cost);
      }
    }
  }

  private static void tried(DotLines x, int f, int cost) {
    int[] points = new int[20];
    int turns = 0;
    for (int i = 0; i < x.face(f, 11); i++) {
      if (x.step(f, i, 3) != 1) {
        points[turns] = i;
        turns++;
      }
    }
    int least = Integer.MAX_VALUE;
    int best = 0;
    for (int word = 0; word < 1 << turns; word++) {
      int sum = 0;
      for (int t = 0; t < turns; t++) {
        int next = (t + 1) % turns;
        boolean mine = (word >> turns - 1 - t & 1) == 1;
        boolean other = (word >> turns - 1 - next & 1) == 1;
        boolean alike = x.step(f, points[t], 3) == x.step(f, points[next], 3);
        sum += mine && other ? 100000 : mine ? cost : !other && alike ? 25 : 10;
      }
      if (sum < least) {
        least = sum;
        best = word;
      }
    }
    Due.is("by trial, " + turns + " turns with " + cost, x.corners(f, cost), least);
    for (int t = 0; t < turns; t++) {
      Due.is("by trial, turn " + t + " with " + cost, x.cornered(f, cost, points[t]), best >> turns - 1 - t & 1);
    }
  }

  private static void pointsWithoutATurn() {
    DotLines x = Due.of("111/111");
    cornered(x, 0, 0, 20, 0, 0, 0, 1, 0, 0, 0, 0, 1, 0);
    Due.is("below", x.cornered(0, 0, -1), -1);
  }

  // ---- promise 15

  private static void everyPieceOfOneStep() {
    DotLines x = comb();
    for (int i = 0; i < 210; i++) {
      Due.is("with no point between " + i, x.inBand(0, i, i + 1, 0), 1);
    }
    Due.is("behind the last", x.inBand(0, 210, 211, 0), -1);
    Due.is("over the last", x.inBand(0, 209, 211, 0), -1);
  }

  private static void jUpToAllSteps() {
    DotLines x = Due.of("11/11");
    for (int i = 0; i < 8; i++) {
      Due.is("from " + i + " to all steps", x.inBand(0, i, 8, 400), 1);
      Due.is("from " + i + " beyond", x.inBand(0, i, 9, 400), -1);
      Due.is("from " + i + " to itself", x.inBand(0, i, i, 400), -1);
      Due.is("from " + i + " back", x.inBand(0, i, i - 1, 400), -1);
    }
    Due.is("all steps are no beginning", x.inBand(0, 8, 8, 400), -1);
    Due.is("point 0 again is where it was: straight up", x.inBand(0, 6, 8, 0), 1);
    Due.is("and round the corner", x.inBand(0, 5, 8, 0), 0);
  }

  private static void missesFrom0To400() {
    // from 0, 0 to 0, 1 round a bar: its far end is as far from that line as the bar is long
    for (int wide = 1; wide <= 5; wide++) {
      DotLines x = Due.of("1*" + wide);
      int last = 2 * wide + 1;
      for (int miss = 0; miss <= 400; miss += 50) {
        Due.is("bar of " + wide + " with " + miss, x.inBand(0, 0, last, miss), 100 * wide <= miss ? 1 : 0);
      }
      Due.is("just as far, " + wide, x.inBand(0, 0, last, Math.min(400, 100 * wide)), wide <= 4 ? 1 : 0);
      Due.is("one less, " + wide, x.inBand(0, 0, last, Math.min(400, 100 * wide - 1)), 0);
      Due.is("below", x.inBand(0, 0, last, -1), -1);
      Due.is("above", x.inBand(0, 0, last, 401), -1);
    }
  }

  private static void farFromOneEnd() {
    // both ends at one point: all round a dot the root of 2, all round two of them the root of 5
    DotLines x = Due.of("1");
    Due.is("141", x.inBand(0, 0, 4, 141), 0);
    Due.is("142", x.inBand(0, 0, 4, 142), 1);
    x = Due.of("11");
    Due.is("223", x.inBand(0, 0, 6, 223), 0);
    Due.is("224", x.inBand(0, 0, 6, 224), 1);
    // at one point, though not at point 0
    x = Due.of("110/101/111");
    Due.is("points 3 and 7, 141", x.inBand(0, 3, 7, 141), 0);
    Due.is("points 3 and 7, 142", x.inBand(0, 3, 7, 142), 1);
    Due.is("points 3 and 6 are not", x.inBand(0, 3, 6, 100), 1);
  }

  // ---- promise 16

  private static void ends(DotLines x, int face, int miss, int... due) {
    Due.is("how many with " + miss, x.fewest(face, miss, -1), due.length);
    for (int i = 0; i < due.length; i++) {
      Due.is("piece " + i + " with " + miss, x.fewest(face, miss, i), due[i]);
    }
    Due.is("no piece " + due.length, x.fewest(face, miss, due.length), -4);
    Due.is("none far behind", x.fewest(face, miss, Integer.MAX_VALUE), -4);
    Due.is("none below", x.fewest(face, miss, -2), -1);
  }

  private static void atLeastThree() {
    DotLines x = Due.of("1");
    Due.is("one piece would do", x.inBand(0, 0, 4, 400), 1);
    ends(x, 0, 400, 0, 2, 3);
    x = Due.of("11/11");
    Due.is("one piece would do here, too", x.inBand(0, 0, 8, 400), 1);
    ends(x, 0, 400, 0, 6, 7);
    x = Due.of("1*4");
    Due.is("two pieces would do", x.inBand(0, 0, 9, 400) + x.inBand(0, 9, 10, 400), 2);
    Due.is("one would not", x.inBand(0, 0, 10, 400), 0);
    ends(x, 0, 400, 0, 8, 9);
  }

  private static void theIthPiece() {
    DotLines x = Due.of("1*4");
    ends(x, 0, 0, 0, 4, 5, 9);
    x = comb();
    int pieces = x.fewest(0, 0, -1);
    Due.is("a comb: as many as it has turns", pieces, 34);
    Due.is("the first begins at point 0", x.fewest(0, 0, 0), 0);
    Due.is("the last one, up", x.fewest(0, 0, 33), 198);
    Due.is("no more", x.fewest(0, 0, 34), -4);
  }

  private static void theLongestFirst() {
    DotLines x = Due.of("11/11");
    ends(x, 0, 99, 0, 3, 6);
    ends(x, 0, 100, 0, 3, 7);
    // the longest first piece leaves as few behind it, and then the second is the longest
    ends(Due.of("1"), 0, 71, 0, 2, 3);
  }

  private static void piecesByTrial() {
    String[] pictures = {"1", "11", "111/101/111", "0110/1100", "010/111/010", "0011/0110/1100", "101/111/101",
        "1111/1000/1111", "11111/10001", "111/100/100", "111/010/111", "1011/1110", "001/001/111"};
    int[] misses = {0, 50, 70, 71, 99, 100, 141, 142, 200, 283, 400};
    for (String picture : pictures) {
      DotLines x = Due.of(picture);
      int f = x.faceOf(x.dot(0) == 1 ? 0 : picture.indexOf('1'));
      for (int miss : misses) {
        int[] ends = new int[40];
        int pieces = 3;
        while (!found(x, f, miss, ends, 0, pieces)) {
          pieces++;
        }
        int[] due = new int[pieces];
        System.arraycopy(ends, 0, due, 0, pieces);
        ends(x, f, miss, due);
      }
    }
  }

  /** Whether just so many pieces go from where piece n begins to the end: the longest is tried first. */
  private static boolean found(DotLines x, int f, int miss, int[] ends, int n, int pieces) {
    int steps = x.face(f, 11);
    if (n == pieces) {
      return ends[n] == steps;
    }
    for (int j = steps; j > ends[n]; j--) {
      ends[n + 1] = j;
      if (x.inBand(f, ends[n], j, miss) == 1 && found(x, f, miss, ends, n + 1, pieces)) {
        return true;
      }
    }
    return false;
  }

  private static void missesOfFewest() {
    DotLines x = Due.of("1");
    Due.is("0", x.fewest(0, 0, -1), 4);
    Due.is("400", x.fewest(0, 400, -1), 3);
    Due.is("-1", x.fewest(0, -1, -1), -1);
    Due.is("401", x.fewest(0, 401, -1), -1);
    Due.is("a corner is the root of a half off: 70", x.fewest(0, 70, -1), 4);
    Due.is("71", x.fewest(0, 71, -1), 3);
  }

  // ---- promises 17, 18

  private static void drawnStrictlyToTheRight() {
    // 0, 0 to 1, 1 goes through the dot's middle, the rest is to the left of it
    DotLines x = Due.of("1");
    Due.is("with 71 its pieces are 0, 2, 3", x.fewest(0, 71, 1), 2);
    Due.is("its middle is on one of them", x.drawn(0, 71, 0), 0);
    Due.is("with 70 it is in it", x.drawn(0, 70, 0), 1);
    Due.is("and with 0", x.drawn(0, 0, 0), 1);
    Due.is("and not with 400", x.drawn(0, 400, 0), 0);
    Due.is("below", x.drawn(0, -1, 0), -1);
    Due.is("above", x.drawn(0, 401, 0), -1);
  }

  private static void drawnByLinesUpAndDown() {
    // 0, 0 to 2, 0 to 1, 1 and back: the one line goes down and the other up through a middle
    DotLines x = Due.of("11");
    ends(x, 0, 71, 0, 2, 4);
    Due.is("on the line up, with the line down to the right", x.drawn(0, 71, 0), 1);
    Due.is("on the line down", x.drawn(0, 71, 1), 0);
    Due.is("one of both", x.differ(0, 71), 1);
    // 0, 0 to 2, 1 to 0, 2 and back: both slanted lines are 1 from the left at the middles' heights
    x = Due.of("11/11");
    ends(x, 0, 99, 0, 3, 6);
    int[] due = {1, 0, 1, 0};
    for (int n = 0; n < 4; n++) {
      Due.is("left of it, or on it, " + n, x.drawn(0, 99, Due.at(n % 2, n / 2)), due[n]);
    }
    Due.is("two of four", x.differ(0, 99), 2);
  }

  private static void drawnAtTheRim() {
    DotLines x = Due.of(ALL);
    int drawn = 0;
    for (int at = 0; at < 192; at++) {
      drawn += x.drawn(0, 0, at);
    }
    Due.is("all dots", drawn, 192);
    Due.is("behind the last", x.drawn(0, 0, 192), -1);
    Due.is("ahead of the first", x.drawn(0, 0, -1), -1);
    x.paint(191, 2);
    Due.is("the last one by itself", x.drawn(1, 0, 191), 1);
    Due.is("it alone", x.drawn(1, 0, 190), 0);
    Due.is("not of the rest", x.drawn(0, 0, 191), 0);
    Due.is("the one ahead is", x.drawn(0, 0, 190), 1);
  }

  private static void differFromNoneToAll() {
    Due.is("all of a picture as it is", Due.of(ALL).differ(0, 0), 0);
    DotLines x = Due.of("111/101/111");
    Due.is("a hole is filled on both sides", x.differ(0, 0), 0);
    Due.is("but what is in it has its own", x.differ(1, 0), 0);
    // 0, 10, 11: a polygon without a middle in it
    Due.is("all of it", x.differ(0, 400), 9);
    Due.is("a dot", Due.of("1").differ(0, 400), 1);
    Due.is("below", x.differ(0, -1), -1);
    Due.is("above", x.differ(0, 401), -1);
    x.touch(1);
    Due.is("by corners as well", x.differ(0, 0), 0);
  }
}
