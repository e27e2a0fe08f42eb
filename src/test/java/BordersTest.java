/** Promises 12 to 18: step, corners, cornered, inBand, fewest, drawn, differ. */
public final class BordersTest {
  public static void main(String[] args) {
    steps();
    cornersThatTouch();
    corners();
    bands();
    fewest();
    drawn();
    differ();
    Due.end();
  }

  private static void row(DotLines x, int face, int[][] due) {
    Due.is("steps", x.face(face, 11), due.length);
    for (int i = 0; i < due.length; i++) {
      for (int what = 0; what < 4; what++) {
        Due.is("step(" + face + ", " + i + ", " + what + ")", x.step(face, i, what), due[i][what]);
      }
    }
  }

  private static void steps() {
    DotLines x = Due.of("000/010/011");
    row(x, 1, new int[][] {
        {0, 1, 1, 2}, {1, 2, 1, 2}, {0, 2, 2, 0}, {1, 3, 2, 2},
        {2, 3, 3, 2}, {2, 2, 3, 1}, {3, 1, 3, 2}, {3, 1, 2, 1}});
    Due.is("below", x.step(1, -1, 0), -1);
    Due.is("above", x.step(1, 8, 0), -1);
    Due.is("what below", x.step(1, 0, -1), -1);
    Due.is("what above", x.step(1, 0, 4), -1);
    Due.is("no face", x.step(2, 0, 0), -1);
    // the outer border alone, not those of holes
    x = Due.of("111/101/111");
    Due.is("twelve", x.face(0, 11), 12);
  }

  private static void cornersThatTouch() {
    // one face by sides whose border comes twice to the point 2, 1
    DotLines x = Due.of("110/101/111");
    Due.is("touch 0: steps", x.face(0, 11), 16);
    Due.is("to 2, 1", x.step(0, 3, 1) * 10 + x.step(0, 3, 2), 21);
    Due.is("it turns right, along the same dot", x.step(0, 3, 0), 2);
    x.touch(1);
    Due.is("touch 1: steps", x.face(0, 11), 12);
    Due.is("it turns left, to the other dot", x.step(0, 3, 0), 0);
    Due.is("the turn", x.step(0, 3, 3), 0);
    x = Due.of("0110/1001/0110");
    x.touch(1);
    Due.is("a ring by corners: its outer border goes round its box", x.face(1, 11), 14);
  }

  private static void corners() {
    DotLines x = Due.of("0");
    Due.is("square, 0", x.corners(0, 0), 20);
    Due.is("square, 30", x.corners(0, 30), 80);
    Due.is("square, 40", x.corners(0, 40), 100);
    Due.is("square, 99", x.corners(0, 99), 100);
    for (int i = 0; i < 4; i++) {
      Due.is("at 0, the first row: 0101, " + i, x.cornered(0, 0, i), i % 2);
      Due.is("at 40 none: 0000, " + i, x.cornered(0, 40, i), 0);
    }
    Due.is("cost below", x.corners(0, -1), -1);
    Due.is("cost above", x.corners(0, 100), -1);
    Due.is("no face", x.corners(1, 5), -1);
    Due.is("cornered, cost below", x.cornered(0, -1, 0), -1);
    Due.is("cornered, cost above", x.cornered(0, 100, 0), -1);
    Due.is("cornered, no face", x.cornered(-1, 5, 0), -1);
    Due.is("cornered, no point", x.cornered(0, 5, 4), -1);
    Due.is("cornered, point below", x.cornered(0, 5, -1), -1);
    x = Due.of("00/00");
    Due.is("points without a turn have no corner", x.cornered(0, 0, 1), 0);
    Due.is("with one", x.cornered(0, 0, 2), 1);
  }

  private static void bands() {
    DotLines x = Due.of("0*4/0*4/0*4");
    // 0 .. 4 go right, 4 .. 7 down, 7 .. 11 left, 11 .. 14 up
    Due.is("next to each other", x.inBand(0, 0, 1, 0), 1);
    Due.is("straight", x.inBand(0, 0, 4, 0), 1);
    Due.is("round the corner", x.inBand(0, 0, 5, 0), 0);
    // the line 0, 0 to 4, 3 is 5 long; the point 4, 0 is 12 / 5 from it
    Due.is("240", x.inBand(0, 0, 7, 240), 1);
    Due.is("239", x.inBand(0, 0, 7, 239), 0);
    // both ends at one point: how far from it; 4, 3 is 5 far
    Due.is("round, 400", x.inBand(0, 0, 14, 400), 0);
    Due.is("the infinite line: 0, 0 to 0, 1 round", x.inBand(0, 0, 13, 400), 1);
    Due.is("the infinite line: 399", x.inBand(0, 0, 13, 399), 0);
    x = Due.of("00/00");
    Due.is("round a square: the root of 8", x.inBand(0, 0, 8, 283), 1);
    Due.is("282", x.inBand(0, 0, 8, 282), 0);
    Due.is("i is j", x.inBand(0, 3, 3, 0), -1);
    Due.is("j below i", x.inBand(0, 4, 3, 0), -1);
    Due.is("j above the steps", x.inBand(0, 4, 9, 0), -1);
    Due.is("j is all steps", x.inBand(0, 7, 8, 0), 1);
    Due.is("i below", x.inBand(0, -1, 3, 0), -1);
    Due.is("miss below", x.inBand(0, 0, 3, -1), -1);
    Due.is("miss above", x.inBand(0, 0, 3, 401), -1);
    Due.is("no face", x.inBand(1, 0, 3, 0), -1);
  }

  private static void ends(DotLines x, int face, int miss, int[] due) {
    Due.is("fewest(" + face + ", " + miss + ")", x.fewest(face, miss, -1), due.length);
    for (int i = 0; i < due.length; i++) {
      Due.is("piece " + i + " with " + miss, x.fewest(face, miss, i), due[i]);
    }
    Due.is("no more", x.fewest(face, miss, due.length), -4);
  }

  private static void fewest() {
    DotLines x = Due.of("0");
    ends(x, 0, 0, new int[] {0, 1, 2, 3});
    ends(x, 0, 70, new int[] {0, 1, 2, 3});
    // with 71 a piece over a corner misses by the root of a half; the first piece is the longest
    ends(x, 0, 71, new int[] {0, 2, 3});
    ends(x, 0, 400, new int[] {0, 2, 3});
    x = Due.of("00/00");
    ends(x, 0, 0, new int[] {0, 2, 4, 6});
    ends(x, 0, 400, new int[] {0, 6, 7});
    ends(x, 0, 99, new int[] {0, 3, 6});
    ends(x, 0, 100, new int[] {0, 3, 7});
    Due.is("miss below", x.fewest(0, -1, 0), -1);
    Due.is("miss above", x.fewest(0, 401, 0), -1);
    Due.is("i below", x.fewest(0, 0, -2), -1);
    Due.is("i far", x.fewest(0, 0, Integer.MAX_VALUE), -4);
    Due.is("no face", x.fewest(1, 0, -1), -1);
    // what was found is found anew when the picture is another one
    x.paint(0, 1);
    ends(x, 1, 0, new int[] {0, 1, 3, 5, 6, 7});
  }

  private static void drawn() {
    DotLines x = Due.of("0*5/01110/01010/01110/0*5");
    for (int y = 0; y < 5; y++) {
      for (int dx = 0; dx < 5; dx++) {
        boolean ring = dx > 0 && dx < 4 && y > 0 && y < 4;
        Due.is("drawn " + dx + ", " + y, x.drawn(1, 0, Due.at(dx, y)), ring ? 1 : 0);
        Due.is("by a flat polygon", x.drawn(1, 400, Due.at(dx, y)), 0);
      }
    }
    // 0, 0 to 1, 1 goes through the middle: that is not strictly to the right of it
    x = Due.of("0");
    Due.is("with 71", x.drawn(0, 71, 0), 0);
    Due.is("with 70", x.drawn(0, 70, 0), 1);
    Due.is("no dot", x.drawn(0, 70, 1), -1);
    Due.is("dot below", x.drawn(0, 70, -1), -1);
    Due.is("miss below", x.drawn(0, -1, 0), -1);
    Due.is("miss above", x.drawn(0, 401, 0), -1);
    Due.is("no face", x.drawn(1, 70, 0), -1);
  }

  private static void differ() {
    DotLines x = Due.of("0*5/01110/01010/01110/0*5");
    Due.is("holes are filled", x.differ(1, 0), 0);
    Due.is("outer", x.differ(0, 0), 0);
    Due.is("flat", x.differ(1, 400), 9);
    x = Due.of("0");
    Due.is("70", x.differ(0, 70), 0);
    Due.is("71", x.differ(0, 71), 1);
    Due.is("miss below", x.differ(0, -1), -1);
    Due.is("miss above", x.differ(0, 401), -1);
    Due.is("no face", x.differ(1, 70), -1);
  }
}
