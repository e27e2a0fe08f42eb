/** Promises 1 to 8: a new object, fault, picture, dot, paint, tone, touch, clean. */
public final class PicturesTest {
  public static void main(String[] args) {
    aNewObject();
    faultsOfPictures();
    pictures();
    dotsAndPaint();
    tones();
    touch();
    cleaning();
    Due.end();
  }

  private static void aNewObject() {
    DotLines x = new DotLines();
    Due.is("new wide", x.count(0), 1);
    Due.is("new high", x.count(1), 1);
    Due.is("new faces", x.count(2), 1);
    Due.is("new colours", x.count(3), 1);
    Due.is("new dictionary", x.count(4), 1);
    Due.is("new rules", x.count(5), 0);
    Due.is("new told", x.count(6), 0);
    Due.is("new changes", x.count(7), 0);
    Due.is("new sides", x.count(8), 0);
    Due.is("new dot", x.dot(0), 0);
    Due.is("new second dot", x.dot(1), -1);
    Due.is("new undo", x.undo(), -3);
    Due.is("new redo", x.redo(), -3);
    Due.is("new restore", x.restore(), -3);
    Due.is("new shelf", x.reach(0), -11);
    Due.is("new size", x.face(0, 0), 1);
    Due.is("new steps", x.face(0, 11), 4);
    Due.is("new touch", x.touch(0), 0);
    for (int c = 0; c < 16; c++) {
      Due.is("new tone " + c, x.tone(c, 0), 17 * c);
    }
  }

  private static void fault(String text, int want) {
    DotLines x = new DotLines();
    Due.text(x, 3, text);
    Due.is("fault of " + text, x.fault(3), want);
    if (want >= 0) {
      Due.is("picture of " + text, x.picture(3), -100 - want);
      Due.is("wide after the refused " + text, x.count(0), 1);
      Due.is("high after the refused " + text, x.count(1), 1);
    }
  }

  private static void faultsOfPictures() {
    fault("0", -4);
    fault("f*16", -4);
    fault("0123456789abcdef", -4);
    fault("01/1*2/23", -4);
    fault("0*1", -4);
    fault("0*12345", -4);
    fault("0/0/0/0/0/0/0/0/0/0/0/0", -4);
    fault("", 0);
    fault("/", 0);
    fault("*", 0);
    fault("g", 0);
    fault("A", 0);
    fault("0g", 1);
    fault("0 ", 1);
    fault("0/", 2);
    fault("0//0", 2);
    fault("0*", 2);
    fault("0**", 2);
    fault("0*a", 2);
    fault("0*/", 2);
    fault("0*0", 2);
    fault("0*05", 2);
    fault("0*17", 2);
    fault("0*99", 2);
    fault("0*170", 2);
    fault("0*2*3", 3);
    fault("0*16a", 4);
    fault("0*160", 4);
    fault("0*16/0*16", -4);
    fault("00*16", 3);
    fault("0*15a*2", 6);
    fault("0123456789abcdef0", 16);
    fault("0123456789abcdef0*3", 16);
    fault("0123456789abcdefg", 16);
    fault("000/00", 6);
    fault("000/00/", 6);
    fault("000/0000", 7);
    fault("000/000*2", 8);
    fault("000/0000*2", 7);
    fault("000/00*2", -4);
    fault("000/00*1", 8);
    fault("000/0*2", 7);
    fault("000/0*20", 6);
    fault("000/", 4);
    fault("0/0/0/0/0/0/0/0/0/0/0/0/", 23);
    fault("0/0/0/0/0/0/0/0/0/0/0/0/0", 23);
    fault("00/00/00/00/00/00/00/00/00/00/00/0/0", 34);
    DotLines x = new DotLines();
    Due.is("fault below", x.fault(-1), -1);
    Due.is("fault above", x.fault(8), -1);
    Due.is("fault of nothing", x.fault(7), -11);
    x.row(7, 1, 1);
    Due.is("fault of shorts", x.fault(7), -12);
    x.row(7, 2, 1);
    Due.is("fault of ints", x.fault(7), -12);
    x.keep(7, 1, 0, 0, 1);
    Due.is("fault of a piece", x.fault(7), -12);
    x.row(7, 0, 1);
    Due.is("fault of a byte 0", x.fault(7), 0);
    x.put(7, 0, -1);
    Due.is("fault of a byte below 0", x.fault(7), 0);
    x.put(7, 0, '0' + 256);
    Due.is("what is put in keeps its lowest bits", x.fault(7), -4);
  }

  private static void pictures() {
    DotLines x = Due.of("0*16/1*16/2*16/3*16/4*16/5*16/6*16/7*16/8*16/9*16/a*16/b*16");
    Due.is("greatest wide", x.count(0), 16);
    Due.is("greatest high", x.count(1), 12);
    Due.is("again", x.picture(0), 192);
    for (int y = 0; y < 12; y++) {
      Due.is("line " + y, x.dot(Due.at(15, y)), y);
    }
    Due.show(x, "ab*2c/0*3f");
    Due.is("dots", x.picture(0), 8);
    Due.is("a", x.dot(0), 10);
    Due.is("b", x.dot(1), 11);
    Due.is("b again", x.dot(2), 11);
    Due.is("c", x.dot(3), 12);
    Due.is("no fifth dot", x.dot(4), -1);
    Due.is("0", x.dot(16), 0);
    Due.is("f", x.dot(19), 15);
    Due.is("no third line", x.dot(32), -1);
    x.paint(0, 1);
    x.touch(1);
    x.tone(3, 9);
    Due.is("a change", x.count(7), 1);
    Due.is("read again", x.picture(0), 8);
    Due.is("changes are forgotten", x.count(7), 0);
    Due.is("undo forgotten", x.undo(), -3);
    Due.is("touch stays", x.touch(1), 1);
    Due.is("tone stays", x.tone(3, 9), 9);
    x.paint(0, 1);
    x.undo();
    x.picture(0);
    Due.is("redo forgotten", x.redo(), -3);
    Due.is("picture below", x.picture(-1), -1);
    Due.is("picture above", x.picture(8), -1);
    Due.is("picture of nothing", x.picture(1), -11);
    x.row(1, 2, 3);
    Due.is("picture of ints", x.picture(1), -12);
    x.paint(0, 1);
    Due.text(x, 1, "00/0");
    Due.is("a picture with a fault", x.picture(1), -104);
    Due.is("refused: the change stays", x.count(7), 1);
    Due.is("refused: the dot stays", x.dot(0), 1);
  }

  private static void dotsAndPaint() {
    DotLines x = Due.of("01/23");
    Due.is("dot below", x.dot(-1), -1);
    Due.is("dot beside", x.dot(2), -1);
    Due.is("dot under", x.dot(32), -1);
    Due.is("dot far", x.dot(192), -1);
    Due.is("dot farthest", x.dot(Integer.MAX_VALUE), -1);
    Due.is("dot lowest", x.dot(Integer.MIN_VALUE), -1);
    Due.is("dot", x.dot(17), 3);
    Due.is("paint", x.paint(17, 15), 3);
    Due.is("painted", x.dot(17), 15);
    Due.is("paint the same", x.paint(17, 15), 15);
    Due.is("what changes no dot is none", x.count(7), 1);
    Due.is("paint no dot", x.paint(2, 1), -1);
    Due.is("paint no colour", x.paint(0, 16), -1);
    Due.is("paint a colour below", x.paint(0, -1), -1);
    Due.is("paint below", x.paint(-16, 1), -1);
    Due.is("nothing changed", x.count(7), 1);
    Due.is("faces after painting", x.count(2), 4);
    x.paint(17, 2);
    Due.is("faces after painting again", x.count(2), 3);
  }

  private static void tones() {
    DotLines x = Due.of("01");
    Due.is("tone", x.tone(1, 255), 17);
    Due.is("tone again", x.tone(1, 0), 255);
    Due.is("tone once more", x.tone(1, 0), 0);
    Due.is("tone above", x.tone(1, 256), -1);
    Due.is("tone below", x.tone(1, -1), -1);
    Due.is("tone of no colour", x.tone(16, 1), -1);
    Due.is("tone of a colour below", x.tone(-1, 1), -1);
    Due.is("refused", x.tone(1, 0), 0);
    Due.is("tones are no changes", x.count(7), 0);
  }

  private static void touch() {
    DotLines x = Due.of("01/10");
    Due.is("touch 2", x.touch(2), -1);
    Due.is("touch -1", x.touch(-1), -1);
    Due.is("four", x.count(2), 4);
    Due.is("touch 1", x.touch(1), 0);
    Due.is("two", x.count(2), 2);
    Due.is("touch 1 again", x.touch(1), 1);
    Due.is("touch 0", x.touch(0), 1);
    Due.is("four again", x.count(2), 4);
    Due.is("touch is no change", x.count(7), 0);
  }

  private static void cleaning() {
    DotLines x = Due.of("0*5/01110/01210/01110/0*5");
    Due.is("clean 0", x.clean(0), -1);
    Due.is("clean 21", x.clean(21), -1);
    Due.is("clean -1", x.clean(-1), -1);
    Due.is("clean 1", x.clean(1), 1);
    Due.is("the speck has the ring's colour", x.dot(Due.at(2, 2)), 1);
    Due.is("clean 8 finds nothing", x.clean(8), 0);
    Due.is("one change", x.count(7), 1);
    Due.is("clean 9", x.clean(9), 9);
    Due.is("all of one", x.count(2), 1);
    Due.is("clean what has none beside", x.clean(20), 0);
    x = Due.of("1*5/1*5/1*5/1*5");
    Due.is("a face that is all stays", x.clean(20), 0);
    // all at once: each takes the colour that was ahead
    x = Due.of("01");
    Due.is("both", x.clean(1), 2);
    Due.is("first", x.dot(0), 1);
    Due.is("second", x.dot(1), 0);
    // of several the least colour
    x = Due.of("030/555");
    Due.is("sides: 0 two, 5 one", x.clean(2), 3);
    Due.is("3 takes 0", x.dot(1), 0);
    Due.is("0 takes 3, as 3 and 5 have a side each", x.dot(0), 3);
    Due.is("5 stays", x.dot(16), 5);
    x = Due.of("9*4/9829/9*4");
    x.clean(1);
    Due.is("8 takes 9", x.dot(17), 9);
    Due.is("2 takes 9", x.dot(18), 9);
    // by corners a checkerboard is two faces
    x = Due.of("010/101/010");
    x.touch(1);
    Due.is("the smaller face alone", x.clean(4), 4);
    Due.is("all of 0", x.count(2), 1);
    Due.is("colour", x.dot(1), 0);
  }
}
