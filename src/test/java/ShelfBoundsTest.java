/**
 * The bounds that the terms name for SHELVES, ROWS and PIECES, and the promises 36 to 42: SHELVES 0 .. 7, 0 .. 120
 * elements, the lowest bits, POINTS 0 .. STEPS, ends that are one.
 */
public final class ShelfBoundsTest {
  private static final String ALL = "1*16/1*16/1*16/1*16/1*16/1*16/1*16/1*16/1*16/1*16/1*16/1*16";
  private static final int MIN = Integer.MIN_VALUE;
  private static final int MAX = Integer.MAX_VALUE;

  public static void main(String[] args) {
    nothingAtFirst();
    shelvesFrom0To7();
    allThatCanBeHeld();
    rowsFrom0To120();
    sortsFrom0To2();
    aNewRowHas0();
    theLowestBits();
    placesFromTheFirstToTheLast();
    copiesOfNone();
    copiesOfAll();
    copiesToTheEnd();
    copiesOverThemselves();
    copiesOfEachSort();
    copiesKeepTheRest();
    kindsFrom0To4();
    pointsFrom0ToSteps();
    nothingWhateverTheOthersAre();
    oneThingAShelf();
    reachOfNoneAndOfMost();
    cutReaches();
    asThen();
    failuresOfTheFirstAndTheLastFace();
    failuresOfEachKind();
    endsThatAreOne();
    Due.end();
  }

  private static void nothingAtFirst() {
    DotLines x = new DotLines();
    for (int d = 0; d < 8; d++) {
      Due.is("reach " + d, x.reach(d), -11);
      Due.is("toss " + d, x.toss(d), -11);
      Due.is("put " + d, x.put(d, 0, 0), -11);
      Due.is("copy from " + d, x.copy(d, 0, d, 0, 0), -11);
      Due.is("fault " + d, x.fault(d), -11);
      Due.is("ruleFault " + d, x.ruleFault(d), -11);
      Due.is("picture " + d, x.picture(d), -11);
      Due.is("rule " + d, x.rule(d), -11);
      Due.is("element " + d, Due.thrown(x, d, 0), 2);
    }
  }

  private static void shelvesFrom0To7() {
    DotLines x = new DotLines();
    int[] there = {0, 7};
    for (int d : there) {
      Due.is("row", x.row(d, 0, 1), 0);
      Due.is("put", x.put(d, 0, '5'), 0);
      Due.is("element", x.element(d, 0), '5');
      Due.is("copy", x.copy(d, 0, d, 0, 1), 1);
      Due.is("fault", x.fault(d), -4);
      Due.is("picture", x.picture(d), 1);
      Due.is("ruleFault", x.ruleFault(d), 0);
      Due.is("rule", x.rule(d), -100);
      Due.is("keep", x.keep(d, 1, 0, 0, 1), 0);
      Due.is("reach", x.reach(d), 1);
      Due.is("toss", x.toss(d), 0);
      Due.is("keep nothing", x.keep(d, 0, 0, 0, 0), 0);
    }
    int[] none = {-1, 8, MIN, MAX};
    for (int d : none) {
      Due.is("row " + d, x.row(d, 0, 1), -1);
      Due.is("put " + d, x.put(d, 0, 1), -1);
      Due.is("element " + d, Due.thrown(x, d, 0), 1);
      Due.is("copy " + d, x.copy(d, 0, 0, 0, 0), -1);
      Due.is("copy to " + d, x.copy(0, 0, d, 0, 0), -1);
      Due.is("fault " + d, x.fault(d), -1);
      Due.is("picture " + d, x.picture(d), -1);
      Due.is("ruleFault " + d, x.ruleFault(d), -1);
      Due.is("rule " + d, x.rule(d), -1);
      Due.is("keep " + d, x.keep(d, 1, 0, 0, 1), -1);
      Due.is("keep nothing " + d, x.keep(d, 0, 0, 0, 1), -1);
      Due.is("reach " + d, x.reach(d), -1);
      Due.is("toss " + d, x.toss(d), -1);
    }
  }

  private static void allThatCanBeHeld() {
    DotLines x = new DotLines();
    for (int d = 0; d < 8; d++) {
      Due.is("row " + d, x.row(d, 2, 120), 0);
      for (int i = d; i < 120; i += 8) {
        Due.is("put", x.put(d, i, 1000000 * d + i), 0);
      }
    }
    for (int d = 0; d < 8; d++) {
      for (int i = 0; i < 120; i++) {
        Due.is("element " + d + ", " + i, x.element(d, i), i % 8 == d ? 1000000 * d + i : 0);
      }
      Due.is("no more", Due.thrown(x, d, 120), 2);
    }
  }

  private static void rowsFrom0To120() {
    for (int n = 0; n <= 120; n++) {
      DotLines x = new DotLines();
      Due.is("row of " + n, x.row(3, n % 3, n), 0);
      Due.is("ahead of the first of " + n, x.put(3, -1, 1), -13);
      Due.is("the last of " + n, x.put(3, n - 1, 1), n == 0 ? -13 : 0);
      Due.is("behind the last of " + n, x.put(3, n, 1), -13);
      Due.is("element, the last of " + n, Due.thrown(x, 3, n - 1), n == 0 ? 2 : 0);
      Due.is("element, behind the last of " + n, Due.thrown(x, 3, n), 2);
    }
    DotLines x = new DotLines();
    Due.is("121", x.row(3, 0, 121), -1);
    Due.is("-1", x.row(3, 0, -1), -14);
    Due.is("still nothing", x.put(3, 0, 1), -11);
  }

  private static void sortsFrom0To2() {
    DotLines x = new DotLines();
    for (int sort = 0; sort < 3; sort++) {
      Due.is("sort " + sort, x.row(0, sort, 1), 0);
      Due.is("only bytes are a text, " + sort, x.fault(0), sort == 0 ? 0 : -12);
      Due.is("nor of a rule, " + sort, x.ruleFault(0), sort == 0 ? 0 : -12);
    }
    Due.is("3", x.row(0, 3, 1), -1);
    Due.is("-1", x.row(0, -1, 1), -1);
  }

  private static void aNewRowHas0() {
    DotLines x = new DotLines();
    for (int sort = 0; sort < 3; sort++) {
      x.row(4, sort, 120);
      x.put(4, 0, 7);
      x.put(4, 119, 7);
      x.row(4, (sort + 1) % 3, 120);
      Due.is("the first", x.element(4, 0), 0);
      Due.is("the last", x.element(4, 119), 0);
      x.put(4, 60, 7);
      x.row(4, sort, 10);
      x.row(4, sort, 120);
      Due.is("made longer again", x.element(4, 60), 0);
      x.put(4, 60, 7);
      x.keep(4, 0, 0, 0, 0);
      x.row(4, sort, 120);
      Due.is("behind nothing", x.element(4, 60), 0);
    }
  }

  private static void lowest(int sort, int v, long want) {
    DotLines x = new DotLines();
    x.row(0, sort, 1);
    Due.is("put " + v, x.put(0, 0, v), 0);
    Due.is("sort " + sort + " keeps of " + v, x.element(0, 0), want);
  }

  private static void theLowestBits() {
    lowest(0, 127, 127);
    lowest(0, 128, -128);
    lowest(0, -128, -128);
    lowest(0, -129, 127);
    lowest(0, 255, -1);
    lowest(0, 256, 0);
    lowest(0, 304, '0');
    lowest(0, MAX, -1);
    lowest(0, MIN, 0);
    lowest(1, 255, 255);
    lowest(1, 256, 256);
    lowest(1, 32767, 32767);
    lowest(1, 32768, -32768);
    lowest(1, -32768, -32768);
    lowest(1, -32769, 32767);
    lowest(1, 65535, -1);
    lowest(1, 65536, 0);
    lowest(1, MAX, -1);
    lowest(1, MIN, 0);
    lowest(2, 65536, 65536);
    lowest(2, MAX, MAX);
    lowest(2, MIN, MIN);
    lowest(2, -1, -1);
  }

  private static void placesFromTheFirstToTheLast() {
    DotLines x = new DotLines();
    x.row(0, 1, 5);
    for (int i = 0; i < 5; i++) {
      Due.is("put " + i, x.put(0, i, i + 1), 0);
    }
    for (int i = 0; i < 5; i++) {
      Due.is("element " + i, x.element(0, i), i + 1);
    }
    int[] none = {-1, 5, 6, 119, 120, MIN, MAX};
    for (int i : none) {
      Due.is("no place " + i, x.put(0, i, 9), -13);
      Due.is("no element " + i, Due.thrown(x, 0, i), 2);
    }
  }

  // ---- promise 40

  private static DotLines twoRows(int sort, int n, int m) {
    DotLines x = new DotLines();
    x.row(0, sort, n);
    x.row(1, sort, m);
    for (int i = 0; i < n; i++) {
      x.put(0, i, i + 1);
    }
    return x;
  }

  private static void copiesOfNone() {
    DotLines x = twoRows(0, 3, 2);
    for (int i = -1; i <= 4; i++) {
      for (int j = -1; j <= 3; j++) {
        boolean there = i >= 0 && i <= 3 && j >= 0 && j <= 2;
        Due.is("none from " + i + " to " + j, x.copy(0, i, 1, j, 0), there ? 0 : -13);
      }
    }
    x = twoRows(2, 0, 0);
    Due.is("of none to none", x.copy(0, 0, 1, 0, 0), 0);
    Due.is("one of none", x.copy(0, 0, 1, 0, 1), -13);
    Due.is("less than none", x.copy(0, 0, 1, 0, -1), -13);
  }

  private static void copiesOfAll() {
    DotLines x = twoRows(0, 120, 120);
    Due.is("all", x.copy(0, 0, 1, 0, 120), 120);
    for (int i = 0; i < 120; i++) {
      Due.is("element " + i, x.element(1, i), i + 1);
    }
    Due.is("one more", x.copy(0, 0, 1, 0, 121), -13);
    Due.is("all from the second on", x.copy(0, 1, 1, 0, 120), -13);
    Due.is("all to the second on", x.copy(0, 0, 1, 1, 120), -13);
    Due.is("all but one from the second on", x.copy(0, 1, 1, 0, 119), 119);
    Due.is("all but one to the second on", x.copy(0, 0, 1, 1, 119), 119);
  }

  private static void copiesToTheEnd() {
    for (int i = 0; i <= 6; i++) {
      for (int n = 0; n <= 7; n++) {
        DotLines x = twoRows(1, 6, 4);
        boolean there = i + n <= 6 && n <= 4;
        Due.is("from " + i + " on " + n, x.copy(0, i, 1, 0, n), there ? n : -13);
        Due.is("its first", x.element(1, 0), there && n > 0 ? i + 1 : 0);
      }
    }
    for (int j = 0; j <= 4; j++) {
      for (int n = 0; n <= 5; n++) {
        DotLines x = twoRows(1, 6, 4);
        boolean there = j + n <= 4;
        Due.is("to " + j + " on " + n, x.copy(0, 0, 1, j, n), there ? n : -13);
        Due.is("its last", x.element(1, 3), there && n > 0 && j + n == 4 ? n : 0);
      }
    }
    DotLines x = twoRows(1, 6, 4);
    Due.is("from far", x.copy(0, MAX, 1, 0, 1), -13);
    Due.is("to far", x.copy(0, 0, 1, MAX, 1), -13);
    Due.is("so many that it goes round", x.copy(0, 1, 1, 1, MAX), -13);
    Due.is("least", x.copy(0, MIN, 1, MIN, MIN), -13);
  }

  private static void copiesOverThemselves() {
    for (int i = 0; i <= 5; i++) {
      for (int j = 0; j <= 5; j++) {
        DotLines x = twoRows(2, 8, 0);
        Due.is("3 from " + i + " to " + j, x.copy(0, i, 0, j, 3), 3);
        for (int k = 0; k < 8; k++) {
          int due = k >= j && k < j + 3 ? i + k - j + 1 : k + 1;
          Due.is("from " + i + " to " + j + ", element " + k, x.element(0, k), due);
        }
      }
    }
  }

  private static void copiesOfEachSort() {
    for (int one = 0; one < 3; one++) {
      for (int other = 0; other < 3; other++) {
        DotLines x = new DotLines();
        x.row(0, one, 2);
        x.row(7, other, 2);
        x.put(0, 1, -5);
        Due.is("of sort " + one + " to " + other, x.copy(0, 1, 7, 0, 1), one == other ? 1 : -12);
        Due.is("element", x.element(7, 0), one == other ? -5 : 0);
      }
    }
  }

  private static void copiesKeepTheRest() {
    DotLines x = twoRows(0, 5, 5);
    for (int i = 0; i < 5; i++) {
      x.put(1, i, 50 + i);
    }
    x.copy(0, 1, 1, 2, 2);
    int[] due = {50, 51, 2, 3, 54};
    for (int i = 0; i < 5; i++) {
      Due.is("element " + i, x.element(1, i), due[i]);
      Due.is("what is copied stays " + i, x.element(0, i), i + 1);
    }
  }

  // ---- promise 36

  private static void kindsFrom0To4() {
    DotLines x = new DotLines();
    int[] reaches = {1, 1, 1, 4, 2};
    for (int kind = 0; kind < 5; kind++) {
      Due.is("kind " + kind, x.keep(0, 1, kind, 0, 1), 0);
      Due.is("reach of kind " + kind, x.reach(0), reaches[kind]);
    }
    Due.is("kind -1", x.keep(0, 1, -1, 0, 1), -1);
    Due.is("kind 5", x.keep(0, 1, 5, 0, 1), -1);
    Due.is("what 2", x.keep(0, 2, 0, 0, 1), -1);
    Due.is("what -1", x.keep(0, -1, 0, 0, 1), -1);
    Due.is("still the last", x.reach(0), 2);
  }

  private static void pointsFrom0ToSteps() {
    int[][] pictures = {{1, 4}, {2, 6}, {16, 34}};
    for (int[] picture : pictures) {
      DotLines x = Due.of("1*" + picture[0]);
      int steps = picture[1];
      Due.is("steps", x.face(0, 11), steps);
      for (int i = 0; i <= steps + 1; i++) {
        boolean there = i <= steps;
        Due.is("from " + i, x.keep(0, 1, 0, 0, 1000 * i), there ? 0 : -1);
        Due.is("to " + i, x.keep(0, 1, 0, 0, i), there ? 0 : -1);
        Due.is("from and to " + i, x.keep(0, 1, 0, 0, 1001 * i), there ? 0 : -1);
        Due.is("from all steps to " + i, x.keep(0, 1, 0, 0, 1000 * steps + i), there ? 0 : -1);
      }
      Due.is("below", x.keep(0, 1, 0, 0, -1), -1);
      Due.is("to 999", x.keep(0, 1, 0, 0, 999), -1);
    }
    DotLines x = comb();
    Due.is("to all of 210 steps", x.keep(0, 1, 0, 0, 210), 0);
    Due.is("from all of 210 steps", x.keep(0, 1, 0, 0, 210210), 0);
    Due.is("to one more", x.keep(0, 1, 0, 0, 211), -1);
    Due.is("from one more", x.keep(0, 1, 0, 0, 211000), -1);
  }

  private static DotLines comb() {
    DotLines x = Due.of(ALL);
    for (int y = 1; y < 12; y++) {
      for (int u = 1; u < 16; u += 2) {
        x.paint(Due.at(u, y), 2);
      }
    }
    return x;
  }

  private static void nothingWhateverTheOthersAre() {
    int[] any = {0, -1, 5, 99, 1000000, MIN, MAX};
    for (int n : any) {
      DotLines x = new DotLines();
      x.row(2, 0, 1);
      Due.is("nothing, with " + n, x.keep(2, 0, n, n, n), 0);
      Due.is("it is nothing", x.put(2, 0, 1), -11);
      x.keep(2, 1, 0, 0, 1);
      Due.is("nothing again, with " + n, x.keep(2, 0, n, n, n), 0);
      Due.is("it is nothing again", x.reach(2), -11);
      Due.is("nothing in place of nothing", x.keep(2, 0, n, n, n), 0);
    }
  }

  private static void oneThingAShelf() {
    DotLines x = new DotLines();
    x.row(0, 0, 1);
    Due.is("a row is no piece", x.reach(0), -12);
    x.keep(0, 1, 0, 0, 1);
    Due.is("a piece is no row", x.put(0, 0, 1), -12);
    Due.is("and has no places", x.put(0, -1, 1), -12);
    Due.is("and is no text", x.fault(0), -12);
    x.row(0, 0, 0);
    Due.is("an empty row is a row", x.reach(0), -12);
    Due.is("and a text", x.fault(0), 0);
  }

  // ---- promises 41, 42

  private static void reach(DotLines x, int told, int... due) {
    for (int kind = 0; kind < due.length; kind++) {
      x.keep(6, 1, kind, 0, told);
      Due.is("kind " + kind + ", " + told, x.reach(6), due[kind]);
    }
  }

  private static void reachOfNoneAndOfMost() {
    DotLines x = Due.of(ALL);
    reach(x, 0, 0, 0, 0, 3, 12);
    reach(x, 56, 0, 0, 0, 3, 12);
    reach(x, 56000, 0, 0, 0, 3, 12);
    reach(x, 28028, 0, 0, 0, 3, 12);
    reach(x, 28, 28, 20, 42, 45, 32);
    reach(x, 28000, 28, 20, 42, 45, 32);
    reach(x, 28056, 28, 20, 42, 45, 32);
    reach(x, 16044, 28, 20, 42, 45, 32);
    reach(x, 16, 16, 16, 24, 27, 28);
    reach(x, 44056, 12, 12, 18, 21, 24);
  }

  private static void cutReaches() {
    DotLines x = Due.of(ALL);
    // the points 16 and on are 16, 0 and down: with 15 those are 1 and 0 .. 12 away
    int[] roots = {1, 1, 2, 3, 4, 5, 6, 7, 8, 9, 10, 11, 12};
    for (int down = 0; down <= 12; down++) {
      int sum = 1 + down;
      reach(x, 15016 + down, sum, roots[down], sum + sum / 2, sum + sum / 2 + 3, roots[down] + 12);
    }
    reach(x, 14017, 3, 2, 4, 7, 14);
    reach(x, 14018, 4, 2, 6, 9, 14);
    reach(x, 13020, 7, 5, 10, 13, 17);
    reach(x, 4021, 17, 13, 25, 28, 25);
    reach(x, 4020, 16, 12, 24, 27, 24);
    reach(x, 27, 27, 19, 40, 43, 31);
  }

  private static void asThen() {
    DotLines x = Due.of("0*5/01110/01110/01110/0*5");
    for (int kind = 0; kind < 5; kind++) {
      x.keep(kind, 1, kind, 1, 6);
    }
    int[] reaches = {6, 4, 9, 12, 7};
    int[] failures = {1, -15, 1, 101, 3};
    String[] later = {"paint", "touch", "picture", "restore"};
    x.image();
    for (String what : later) {
      if (what.equals("paint")) {
        x.paint(18, 0);
      } else if (what.equals("touch")) {
        x.touch(1);
      } else if (what.equals("picture")) {
        Due.text(x, 7, "0");
        x.picture(7);
      } else {
        x.restore();
      }
      for (int kind = 0; kind < 5; kind++) {
        Due.is("reach behind " + what + ", kind " + kind, x.reach(kind), reaches[kind]);
        Due.is("toss behind " + what + ", kind " + kind, x.toss(kind), failures[kind]);
      }
    }
  }

  private static void failuresOfTheFirstAndTheLastFace() {
    DotLines x = Due.of(ALL);
    for (int at = 0; at < 192; at++) {
      x.paint(at, (at % 16 + at / 16) % 2);
    }
    int[] some = {0, 1, 99, 100, 190, 191};
    for (int f : some) {
      int[] due = {f, -15, f, 100 + f, 1};
      for (int kind = 0; kind < 5; kind++) {
        Due.is("keep of face " + f, x.keep(kind, 1, kind, f, 1), 0);
        Due.is("kind " + kind + " of face " + f, x.toss(kind), due[kind]);
        Due.is("once more", x.toss(kind), due[kind]);
      }
    }
    Due.is("behind the last", x.keep(0, 1, 0, 192, 1), -1);
    Due.is("ahead of the first", x.keep(0, 1, 0, -1, 1), -1);
  }

  private static void failuresOfEachKind() {
    for (int k = 1; k <= 12; k++) {
      StringBuilder text = new StringBuilder("1*" + k);
      for (int y = 1; y < k; y++) {
        text.append("/1*").append(k);
      }
      DotLines x = Due.of(text.toString());
      x.keep(0, 1, 4, 0, k);
      Due.is("a pen as broad as " + k, x.toss(0), k);
      Due.is("its reach", x.reach(0), 2 * k);
    }
  }

  private static void endsThatAreOne() {
    DotLines x = Due.of("11/11");
    int[] one = {0, 8, 8000, 8008, 1001, 7007};
    int[] two = {1, 7, 8007, 8001, 7008, 1008, 7000, 1000, 4, 4000};
    for (int kind = 0; kind < 5; kind++) {
      for (int told : one) {
        x.keep(0, 1, kind, 0, told);
        Due.is("kind " + kind + ", one end " + told, x.toss(0), -15);
      }
      for (int told : two) {
        x.keep(0, 1, kind, 0, told);
        Due.is("kind " + kind + ", two ends " + told, x.toss(0), kind == 1 ? -15 : kind == 3 ? 100 : kind == 4 ? 2 : 0);
      }
    }
  }
}
