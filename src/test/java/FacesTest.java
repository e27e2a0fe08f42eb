/** Promises 9 to 11 and 35: faceOf, face, pair, count. */
public final class FacesTest {
  public static void main(String[] args) {
    numbers();
    measures();
    holes();
    pairs();
    counts();
    Due.end();
  }

  private static void numbers() {
    DotLines x = Due.of("001/121/111");
    Due.is("faceOf 0", x.faceOf(0), 0);
    Due.is("faceOf 1", x.faceOf(1), 0);
    Due.is("faceOf 2", x.faceOf(2), 1);
    Due.is("faceOf 16, hanging with 2 round below", x.faceOf(16), 1);
    Due.is("faceOf 17", x.faceOf(17), 2);
    Due.is("faceOf beside", x.faceOf(3), -1);
    Due.is("faceOf under", x.faceOf(48), -1);
    Due.is("faceOf below", x.faceOf(-1), -1);
    x.paint(17, 1);
    Due.is("faceOf 17 painted", x.faceOf(17), 1);
    Due.show(x, "0*16/0*16/0*16/0*16");
    Due.is("a great face", x.face(0, 0), 64);
    Due.show(x, "1/0");
    int[] small = {1, 1, 0, 0, 0, 1, 1, 0, 1, 0, 1, 4};
    for (int what = 0; what < small.length; what++) {
      Due.is("a small one of the same number, " + what, x.face(0, what), small[what]);
    }
  }

  private static void measures() {
    DotLines x = Due.of("0*6/003330/000300/0*6");
    int[] due = {4, 3, Due.at(2, 1), 2, 1, 3, 2, 0, 1, 1, 1, 10};
    for (int what = 0; what < due.length; what++) {
      Due.is("face(1, " + what + ")", x.face(1, what), due[what]);
    }
    int[] around = {20, 0, 0, 0, 0, 6, 4, 1, 1, 0, 2, 20};
    for (int what = 0; what < around.length; what++) {
      Due.is("face(0, " + what + ")", x.face(0, what), around[what]);
    }
    Due.is("face below", x.face(-1, 0), -1);
    Due.is("face above", x.face(2, 0), -1);
    Due.is("what below", x.face(0, -1), -1);
    Due.is("what above", x.face(0, 12), -1);
  }

  private static void holes() {
    // touch 0: what isn't in the face hangs together by corners, too
    DotLines x = Due.of("0*5/01110/01010/01100/0*5");
    Due.is("the dot inside hangs with the rest by a corner", x.face(1, 7), 0);
    Due.is("but it is a face of its own", x.face(2, 0), 1);
    Due.is("that lies in the outer one alone", x.face(2, 9), 1);
    x.touch(1);
    Due.is("touch 1: the ring is closed", x.face(1, 7), 1);
    Due.is("but the dot in it is of the face outside", x.faceOf(Due.at(2, 2)), 0);
    Due.is("which doesn't lie in it whole", x.pair(0, 1, 1), 0);
    x = Due.of("0*7/0111110/0101010/0111110/0*7");
    Due.is("two holes", x.face(1, 7), 2);
    Due.is("faces", x.count(2), 4);
    Due.is("in the first hole", x.face(2, 9), 2);
    Due.is("in the second", x.face(3, 9), 2);
    // what is at the rim is in no hole
    x = Due.of("010/101/111");
    Due.is("rim", x.face(1, 7), 0);
    x = Due.of("111/101/111");
    Due.is("a face that fills the picture but one dot", x.face(0, 7), 1);
    Due.is("depth", x.face(1, 9), 1);
    x.touch(1);
    Due.is("touch 1 as well", x.face(0, 7), 1);
    // touch 1: a face by corners may be in two holes, and then lies in neither
    x = Due.of("00000/00100/01010/00101/00010");
    x.touch(1);
    int outer = x.faceOf(Due.at(2, 1));
    Due.is("holes of the chain at the rim", x.face(outer, 7), 2);
    x = Due.of("0*6/001000/010100/001010/000100/0*6");
    x.touch(1);
    int chain = x.faceOf(Due.at(2, 1));
    Due.is("two holes by corners", x.face(chain, 7), 2);
    Due.is("both dots are of the face outside", x.faceOf(Due.at(2, 2)), 0);
    Due.is("the outer face lies in no hole", x.face(0, 9), 0);
    Due.is("the chain lies in a hole of the outer one", x.pair(chain, 0, 1), 0);
    // two dots that touch by a corner, each in a hole of its own
    x = Due.of("0*6/001000/012100/001210/000100/0*6");
    x.touch(1);
    int inside = x.faceOf(Due.at(2, 2));
    Due.is("one face", x.face(inside, 0), 2);
    Due.is("in two holes: it doesn't lie in the chain", x.pair(inside, chain, 1), 0);
    Due.is("its depth: in the outer face alone", x.face(inside, 9), 1);
    x.touch(0);
    Due.is("touch 0: two faces", x.face(inside, 0), 1);
  }

  private static void pairs() {
    DotLines x = Due.of("0*5/01110/01210/01110/0*5");
    Due.is("0 and 1", x.pair(0, 1, 0), 1);
    Due.is("1 and 0", x.pair(1, 0, 0), 1);
    Due.is("0 and 2", x.pair(0, 2, 0), 0);
    Due.is("1 in 0", x.pair(1, 0, 1), 1);
    Due.is("0 in 1", x.pair(0, 1, 1), 0);
    Due.is("2 in 0", x.pair(2, 0, 1), 1);
    Due.is("one twice", x.pair(1, 1, 0), -1);
    Due.is("one twice, in", x.pair(1, 1, 1), -1);
    Due.is("what 2", x.pair(0, 1, 2), -1);
    Due.is("what -1", x.pair(0, 1, -1), -1);
    Due.is("no first", x.pair(3, 1, 0), -1);
    Due.is("no second", x.pair(0, 3, 0), -1);
    Due.is("below", x.pair(0, -1, 0), -1);
    // corners make no neighbours
    x = Due.of("12/31");
    Due.is("by a corner", x.pair(x.faceOf(1), x.faceOf(16), 0), 0);
    Due.is("neighbours", x.face(0, 8), 2);
    x.touch(1);
    Due.is("neighbours by touch 1", x.face(0, 8), 2);
    Due.is("by a corner again", x.pair(x.faceOf(1), x.faceOf(16), 0), 0);
  }

  private static void counts() {
    DotLines x = Due.of("012/011/233");
    Due.is("wide", x.count(0), 3);
    Due.is("high", x.count(1), 3);
    Due.is("faces", x.count(2), 5);
    Due.is("colours", x.count(3), 4);
    Due.is("dictionary: two in a row, an angle of three, one", x.count(4), 3);
    Due.is("rules", x.count(5), 0);
    Due.text(x, 1, "A:s>0");
    x.rule(1);
    x.rule(1);
    x.tell(0, false);
    Due.is("rules", x.count(5), 2);
    Due.is("told", x.count(6), 1);
    x.paint(0, 5);
    Due.is("changes", x.count(7), 1);
    Due.is("sides", x.count(8), 9);
    Due.is("count 9", x.count(9), -1);
    Due.is("count -1", x.count(-1), -1);
    x = Due.of("0123456789abcdef");
    Due.is("sixteen colours", x.count(3), 16);
    Due.is("fifteen sides", x.count(8), 15);
    Due.is("one shape", x.count(4), 1);
  }
}
