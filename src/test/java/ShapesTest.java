/** Promises 19 to 23: breadth, stroke, like, butFor, leader. */
public final class ShapesTest {
  public static void main(String[] args) {
    breadths();
    middles();
    strokes();
    likes();
    butFor();
    leaders();
    Due.end();
  }

  private static void breadths() {
    DotLines x = Due.of("11100/11111/11100/00100");
    Due.is("in the square", x.breadth(Due.at(1, 1), 0), 3);
    Due.is("its corner", x.breadth(Due.at(2, 2), 0), 3);
    Due.is("on the bar", x.breadth(Due.at(3, 1), 0), 1);
    Due.is("under the square", x.breadth(Due.at(2, 3), 0), 1);
    Due.is("of the others, alone by the rim", x.breadth(Due.at(3, 0), 0), 1);
    Due.is("of the others, a square of two", x.breadth(Due.at(3, 2), 0), 2);
    Due.is("its last", x.breadth(Due.at(4, 3), 0), 2);
    Due.is("left below", x.breadth(Due.at(0, 3), 0), 1);
    Due.is("what 2", x.breadth(0, 2), -1);
    Due.is("what -1", x.breadth(0, -1), -1);
    Due.is("no dot", x.breadth(5, 0), -1);
    Due.is("below", x.breadth(-1, 0), -1);
    x = Due.of("0*16/0*16/0*16/0*16/0*16/0*16/0*16/0*16/0*16/0*16/0*16/0*16");
    Due.is("greatest", x.breadth(Due.at(15, 11), 0), 12);
    Due.is("greatest of the face", x.face(0, 10), 12);
  }

  private static void middles() {
    DotLines x = Due.of("0*5/0*5/0*5");
    for (int y = 0; y < 3; y++) {
      for (int dx = 0; dx < 5; dx++) {
        boolean great = y == 1 && dx >= 1 && dx <= 3;
        boolean besideGreat = !great && ((dx >= 1 && dx <= 3) || y == 1);
        Due.is("middle " + dx + ", " + y, x.breadth(Due.at(dx, y), 1), besideGreat ? 0 : 1);
      }
    }
    x = Due.of("111/111/111/010");
    Due.is("the very middle", x.breadth(17, 1), 1);
    Due.is("beside it", x.breadth(16, 1), 0);
    Due.is("by the corner", x.breadth(0, 1), 1);
    Due.is("below", x.breadth(Due.at(1, 3), 1), 1);
    // a greater one of another face doesn't matter
    x = Due.of("2222/1112/1112/1112");
    Due.is("beside another face's middle", x.breadth(Due.at(3, 2), 1), 1);
  }

  private static void strokes() {
    DotLines x = Due.of("000/111/111");
    Due.is("one high, three wide", x.stroke(0, 1), 1);
    Due.is("two high, three wide", x.stroke(1, 2), 0);
    Due.is("n below its breadth", x.stroke(1, 1), 0);
    Due.is("n 0", x.stroke(0, 0), -1);
    Due.is("n 17", x.stroke(0, 17), -1);
    Due.is("n 16", x.stroke(0, 16), 1);
    Due.is("no face", x.stroke(2, 1), -1);
    x = Due.of("0*4/0*4/1*4");
    Due.is("four wide is not wider than twice two", x.stroke(0, 2), 0);
    x = Due.of("0*5/0*5/1*5");
    Due.is("five is", x.stroke(0, 2), 1);
    Due.is("but not with 1", x.stroke(0, 1), 0);
    x = Due.of("0/0/0");
    Due.is("higher", x.stroke(0, 1), 1);
    x = Due.of("0/0");
    Due.is("not higher", x.stroke(0, 1), 0);
  }

  private static void likes() {
    // L and its eight ways, against a T
    String[] ways = {
        "10/10/11", "01/01/11", "11/10/10", "11/01/01", "100/111", "001/111", "111/100", "111/001"};
    for (String way : ways) {
      String[] one = way.split("/");
      String picture = "";
      for (int y = 0; y < 3; y++) {
        String mine = y < one.length ? one[y] : "";
        String first = new String[] {"200", "200", "220"}[y];
        picture += (y == 0 ? "" : "/") + first + "0" + (mine + "000").substring(0, 3);
      }
      DotLines x = Due.of(picture);
      int a = x.faceOf(0);
      int b = -1;
      for (int at = 0; at < 40; at++) {
        if (x.dot(at) == 1 && b < 0) {
          b = x.faceOf(at);
        }
      }
      Due.is("like " + way, x.like(a, b), 1);
      Due.is("like " + way + " the other way", x.like(b, a), 1);
      Due.is("not like what is around", x.like(a, x.faceOf(1)), 0);
    }
    DotLines x = Due.of("1112/0102/0022/0000");
    int t = x.faceOf(0);
    int l = x.faceOf(3);
    Due.is("T and L", x.like(t, l), 0);
    Due.is("one twice", x.like(t, t), 1);
    Due.is("no face", x.like(t, 9), -1);
    Due.is("below", x.like(-1, t), -1);
    // the same size and box, yet unlike
    x = Due.of("1100/0110/0000/2220/0200");
    Due.is("S and T", x.like(x.faceOf(0), x.faceOf(48)), 0);
    // boxes as wide and high as turned only
    x = Due.of("1110/0002/0002/0002");
    Due.is("turned bars", x.like(x.faceOf(0), x.faceOf(Due.at(3, 1))), 1);
  }

  private static void butFor() {
    DotLines x = Due.of("1100/0110/0000/2220/0200");
    int s = x.faceOf(0);
    int t = x.faceOf(48);
    Due.is("S and T", x.butFor(s, t), 2);
    Due.is("one twice", x.butFor(s, s), 0);
    Due.is("boxes are unlike", x.butFor(s, x.faceOf(2)), -4);
    Due.is("no face", x.butFor(s, 99), -1);
    Due.is("below", x.butFor(-1, s), -1);
    x = Due.of("1110/0002/0002/0002");
    Due.is("no turning here", x.butFor(x.faceOf(0), x.faceOf(Due.at(3, 1))), -4);
  }

  private static void leaders() {
    DotLines x = Due.of("0120/1102/3304");
    int[] due = {0, 1, 0, 0, 4, 0, 4, 0};
    int faces = x.count(2);
    Due.is("faces", faces, due.length);
    for (int f = 0; f < due.length; f++) {
      Due.is("leader " + f, x.leader(f), due[f]);
    }
    Due.is("dictionary", x.count(4), 3);
    Due.is("no face", x.leader(faces), -1);
    Due.is("below", x.leader(-1), -1);
    x = Due.of("01/10/00");
    Due.is("single dots", x.leader(2), 0);
    Due.is("the angle leads itself", x.leader(3), 3);
  }
}
