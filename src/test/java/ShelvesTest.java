/** Promises 36 to 42: keep, row, put, element, copy, reach, toss. */
public final class ShelvesTest {
  public static void main(String[] args) {
    rows();
    elements();
    copies();
    keeping();
    reaches();
    failures();
    Due.end();
  }

  private static void rows() {
    DotLines x = new DotLines();
    Due.is("row", x.row(0, 0, 0), 0);
    Due.is("longest", x.row(7, 2, 120), 0);
    Due.is("too long", x.row(0, 0, 121), -1);
    Due.is("below 0", x.row(0, 0, -1), -14);
    Due.is("lowest", x.row(0, 0, Integer.MIN_VALUE), -14);
    Due.is("no shelf", x.row(8, 0, 1), -1);
    Due.is("no shelf below", x.row(-1, 0, -1), -1);
    Due.is("no sort", x.row(0, 3, 1), -1);
    Due.is("no sort below", x.row(0, -1, -1), -1);
    x.row(1, 2, 3);
    x.put(1, 2, 5);
    Due.is("refused", x.row(1, 2, 121), -1);
    Due.is("and refused", x.row(1, 2, -5), -14);
    Due.is("changes nothing", x.element(1, 2), 5);
    Due.is("a new row", x.row(1, 2, 3), 0);
    Due.is("has 0 at first", x.element(1, 2), 0);
  }

  private static void elements() {
    DotLines x = new DotLines();
    Due.is("put no shelf", x.put(8, 0, 1), -1);
    Due.is("put nothing", x.put(0, 0, 1), -11);
    Due.is("element no shelf", Due.thrown(x, 8, 0), 1);
    Due.is("element shelf below", Due.thrown(x, -1, 0), 1);
    Due.is("element of nothing", Due.thrown(x, 0, 0), 2);
    x.keep(0, 1, 0, 0, 1);
    Due.is("put in a piece", x.put(0, 0, 1), -12);
    Due.is("element of a piece", Due.thrown(x, 0, 0), 2);
    x.row(0, 0, 2);
    x.row(1, 1, 2);
    x.row(2, 2, 2);
    Due.is("put below", x.put(0, -1, 1), -13);
    Due.is("put above", x.put(0, 2, 1), -13);
    Due.is("element below", Due.thrown(x, 0, -1), 2);
    Due.is("element above", Due.thrown(x, 0, 2), 2);
    Due.is("element there", Due.thrown(x, 0, 1), 0);
    int[] values = {0, 1, -1, 127, 128, 255, 256, -129, 32767, 32768, 65535, 65536, Integer.MAX_VALUE,
        Integer.MIN_VALUE};
    for (int v : values) {
      for (int d = 0; d < 3; d++) {
        Due.is("put " + v, x.put(d, 1, v), 0);
      }
      Due.is("byte of " + v, x.element(0, 1), (byte) v);
      Due.is("short of " + v, x.element(1, 1), (short) v);
      Due.is("int of " + v, x.element(2, 1), v);
    }
    Due.is("the other one", x.element(2, 0), 0);
  }

  private static void copies() {
    DotLines x = new DotLines();
    x.row(0, 1, 5);
    x.row(1, 1, 3);
    x.row(2, 2, 5);
    x.keep(3, 1, 0, 0, 1);
    for (int i = 0; i < 5; i++) {
      x.put(0, i, 10 + i);
    }
    Due.is("copy", x.copy(0, 1, 1, 0, 3), 3);
    for (int i = 0; i < 3; i++) {
      Due.is("copied " + i, x.element(1, i), 11 + i);
    }
    Due.is("onto itself, up", x.copy(0, 0, 0, 1, 4), 4);
    int[] up = {10, 10, 11, 12, 13};
    for (int i = 0; i < 5; i++) {
      Due.is("up " + i, x.element(0, i), up[i]);
    }
    Due.is("onto itself, down", x.copy(0, 1, 0, 0, 4), 4);
    int[] down = {10, 11, 12, 13, 13};
    for (int i = 0; i < 5; i++) {
      Due.is("down " + i, x.element(0, i), down[i]);
    }
    Due.is("none at the end", x.copy(0, 5, 1, 3, 0), 0);
    Due.is("none behind the end", x.copy(0, 6, 1, 3, 0), -13);
    Due.is("none behind the other end", x.copy(0, 5, 1, 4, 0), -13);
    Due.is("too many from", x.copy(1, 1, 0, 0, 3), -13);
    Due.is("too many to", x.copy(0, 0, 1, 1, 3), -13);
    Due.is("from below", x.copy(0, -1, 1, 0, 1), -13);
    Due.is("to below", x.copy(0, 0, 1, -1, 1), -13);
    Due.is("n below", x.copy(0, 2, 1, 2, -1), -13);
    Due.is("n greatest", x.copy(0, 1, 1, 1, Integer.MAX_VALUE), -13);
    Due.is("no shelf from", x.copy(8, 0, 4, 0, 1), -1);
    Due.is("no shelf to", x.copy(4, 0, -1, 0, 1), -1);
    Due.is("nothing from", x.copy(4, 0, 3, 0, 1), -11);
    Due.is("nothing to", x.copy(3, 0, 4, 0, 1), -11);
    Due.is("a piece from", x.copy(3, 0, 1, 0, 1), -12);
    Due.is("a piece to", x.copy(1, 0, 3, 9, 1), -12);
    Due.is("another sort", x.copy(1, 9, 2, 0, 1), -12);
    x.row(4, 0, 3);
    x.row(5, 0, 3);
    x.keep(4, 1, 0, 0, 1);
    Due.is("a piece where a row of the same sort was, from", x.copy(4, 0, 5, 0, 1), -12);
    Due.is("a piece where a row of the same sort was, to", x.copy(5, 0, 4, 0, 1), -12);
    Due.is("two pieces", x.copy(4, 0, 4, 0, 0), -12);
    Due.is("refused", x.element(2, 0), 0);
  }

  private static void keeping() {
    DotLines x = Due.of("0*5/01110/01210/01110/0*5");
    Due.is("no shelf", x.keep(8, 1, 0, 0, 0), -1);
    Due.is("no shelf, nothing", x.keep(-1, 0, 0, 0, 0), -1);
    Due.is("what 2", x.keep(1, 2, 0, 0, 0), -1);
    Due.is("what -1", x.keep(1, -1, 0, 0, 0), -1);
    Due.is("kind 5", x.keep(1, 1, 5, 0, 0), -1);
    Due.is("kind -1", x.keep(1, 1, -1, 0, 0), -1);
    Due.is("no face", x.keep(1, 1, 0, 3, 0), -1);
    Due.is("face below", x.keep(1, 1, 0, -1, 0), -1);
    Due.is("told below", x.keep(1, 1, 0, 1, -1), -1);
    Due.is("i above", x.keep(1, 1, 0, 1, 13000), -1);
    Due.is("j above", x.keep(1, 1, 0, 1, 13), -1);
    Due.is("told far", x.keep(1, 1, 0, 1, Integer.MAX_VALUE), -1);
    Due.is("nothing was kept", x.reach(1), -11);
    Due.is("both 0", x.keep(1, 1, 0, 1, 0), 0);
    Due.is("both the steps", x.keep(1, 1, 0, 1, 12012), 0);
    Due.is("a piece", x.reach(1), 0);
    Due.is("nothing, the others do not matter", x.keep(1, 0, 9, -9, -9), 0);
    Due.is("nothing is held", x.reach(1), -11);
    x.row(1, 0, 3);
    Due.is("a piece in place of a row", x.keep(1, 1, 0, 1, 5), 0);
    Due.is("it is one", x.put(1, 0, 1), -12);
    Due.is("a row in place of a piece", x.row(1, 0, 3), 0);
    Due.is("it is one", x.put(1, 0, 1), 0);
    Due.is("j ahead of i", x.keep(1, 1, 0, 1, 5002), 0);
    Due.is("its reach", x.reach(1), 3);
  }

  private static void reaches() {
    // a square of 5 with steps 0 .. 20: point 5 is 5, 0, point 8 is 5, 3, point 11 is 4, 5
    DotLines x = Due.of("0*5/0*5/0*5/0*5/0*5");
    int[][] due = {{8, 8, 5, 12, 15, 10}, {11, 9, 6, 13, 16, 11}, {3, 3, 3, 4, 7, 8}, {1, 1, 1, 1, 4, 6}, {6, 6, 5, 9, 12, 10}, {2, 2, 2, 3, 6, 7}, {20, 0, 0, 0, 3, 5}};
    for (int[] row : due) {
      for (int kind = 0; kind < 5; kind++) {
        x.keep(kind, 1, kind, 0, row[0]);
        Due.is("kind " + kind + " to " + row[0], x.reach(kind), row[kind + 1]);
      }
    }
    Due.is("no shelf", x.reach(8), -1);
    Due.is("no shelf below", x.reach(-1), -1);
    Due.is("nothing", x.reach(7), -11);
    x.row(7, 0, 1);
    Due.is("a row", x.reach(7), -12);
    // points, and breadths, as they were then
    x.keep(1, 1, 4, 0, 8);
    x.keep(2, 1, 0, 0, 8);
    Due.show(x, "0");
    Due.is("a pen of another picture", x.reach(1), 10);
    Due.is("a piece of another picture", x.reach(2), 8);
    x.keep(2, 1, 0, 0, 2);
    Due.is("a piece of this one", x.reach(2), 2);
  }

  private static void failures() {
    DotLines x = Due.of("0*5/01110/01210/01110/0*5");
    int[] due = {1, -15, 1, 101, 1};
    for (int kind = 0; kind < 5; kind++) {
      x.keep(kind, 1, kind, 1, 4);
      Due.is("kind " + kind, x.toss(kind), due[kind]);
      x.keep(kind, 1, kind, 1, 12);
      Due.is("ends are one, kind " + kind, x.toss(kind), -15);
      x.keep(kind, 1, kind, 1, 7007);
      Due.is("a point and itself, kind " + kind, x.toss(kind), -15);
    }
    x.keep(3, 1, 3, 2, 1);
    x.keep(1, 1, 4, 2, 1);
    x.keep(2, 1, 0, 0, 1);
    Due.show(x, "0");
    Due.is("a bow of face 2", x.toss(3), 102);
    Due.is("a pen of breadth 1", x.toss(1), 1);
    Due.is("a piece of face 0", x.toss(2), 0);
    Due.show(x, "0*5/0*5/0*5");
    x.keep(1, 1, 4, 0, 3);
    Due.is("a pen of breadth 3", x.toss(1), 3);
    // the border comes to one point twice
    Due.show(x, "110/101/111");
    x.keep(3, 1, 0, 0, 3007);
    int far = Math.abs(x.step(0, 3, 1) - x.step(0, 7, 1)) + Math.abs(x.step(0, 3, 2) - x.step(0, 7, 2));
    Due.is("points 3 and 7 are at one place", far, 0);
    Due.is("so its ends are one", x.toss(3), -15);
    Due.is("no shelf", x.toss(8), -1);
    Due.is("no shelf below", x.toss(-1), -1);
    Due.is("nothing", x.toss(7), -11);
    x.row(7, 1, 3);
    Due.is("a row", x.toss(7), -12);
  }
}
