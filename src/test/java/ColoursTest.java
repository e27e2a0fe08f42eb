/** Promises 24 to 26: few, makeFew, pen. */
public final class ColoursTest {
  public static void main(String[] args) {
    few();
    ties();
    makeFew();
    pens();
    pensOfSeveralWays();
    Due.end();
  }

  private static void few() {
    DotLines x = Due.of("0*4/1112/f*4");
    Due.is("one: the sum", x.few(1, 0), 4 * 34 * 34 + 3 * 289 + 4 * 221 * 221);
    Due.is("one: the set", x.few(1, 1), 4);
    Due.is("two: 1 and f", x.few(2, 0), 4 * 289 + 289);
    Due.is("two: the set", x.few(2, 1), 2 + (1 << 15));
    Due.is("three", x.few(3, 0), 289);
    Due.is("three: the set", x.few(3, 1), 1 + 2 + (1 << 15));
    Due.is("four", x.few(4, 0), 0);
    Due.is("four: the set", x.few(4, 1), 1 + 2 + 4 + (1 << 15));
    Due.is("k 0", x.few(0, 0), -1);
    Due.is("k 5", x.few(5, 0), -1);
    Due.is("what 2", x.few(1, 2), -1);
    Due.is("what -1", x.few(1, -1), -1);
    x = Due.of("01234567");
    Due.is("eight colours", x.few(1, 1) > 0 ? 1 : 0, 1);
    x = Due.of("012345678");
    Due.is("nine colours", x.few(1, 0), -3);
    Due.is("nine colours, k 5", x.few(5, 0), -1);
    Due.is("nine colours, what 2", x.few(4, 2), -1);
    Due.is("nine colours made few", x.makeFew(4), -3);
    Due.is("nine colours made few, k 0", x.makeFew(0), -1);
    Due.is("nine colours made few, k 5", x.makeFew(5), -1);
  }

  private static void ties() {
    DotLines x = Due.of("12");
    Due.is("1 or 2: the least as bits", x.few(1, 1), 2);
    x = Due.of("11");
    Due.is("no more than there are", x.few(4, 1), 2);
    Due.is("nothing is far", x.few(4, 0), 0);
    x = Due.of("12");
    x.tone(1, 5);
    x.tone(2, 5);
    Due.is("of one tone: one is enough, the least", x.few(2, 1), 2);
    x = Due.of("1*5/23333/3*5");
    x.tone(1, 0);
    x.tone(2, 10);
    x.tone(3, 20);
    Due.is("2 is as far from both", x.few(2, 0), 100);
    Due.is("kept 1 and 3", x.few(2, 1), 2 + 8);
    Due.is("2 becomes 1, the least", x.makeFew(2), 1);
    Due.is("it is", x.dot(16), 1);
    x = Due.of("1*5/23333/3*5");
    x.tone(1, 20);
    x.tone(2, 10);
    x.tone(3, 0);
    x.makeFew(2);
    Due.is("the least by its number, not by its tone", x.dot(16), 1);
  }

  private static void makeFew() {
    DotLines x = Due.of("0*4/1112/f*4");
    Due.is("two", x.makeFew(2), 5);
    Due.is("colours", x.count(3), 2);
    Due.is("0 became 1", x.dot(0), 1);
    Due.is("2 became 1", x.dot(19), 1);
    Due.is("f stayed", x.dot(32), 15);
    Due.is("again", x.makeFew(2), 0);
    Due.is("one change", x.count(7), 1);
    Due.is("undone", x.undo(), 5);
    // dots that a refused text had beside the picture are none of it
    x = Due.of("12/12");
    Due.text(x, 1, "5*16/5*16/5*16/5*9");
    Due.is("refused", x.picture(1), -118);
    Due.is("two dots alone", x.makeFew(1), 2);
    Due.is("two dots back", x.undo(), 2);
    Due.is("k 0", x.makeFew(0), -1);
    Due.is("k -1", x.makeFew(-1), -1);
  }

  private static void pens() {
    DotLines x = Due.of("0*4/0010/0*4/1001");
    Due.is("way", x.pen(1, -1), 3 + 3 + 3);
    Due.is("the first order", x.pen(1, 0), 1);
    Due.is("second", x.pen(1, 1), 3);
    Due.is("last", x.pen(1, 2), 2);
    Due.is("no fourth", x.pen(1, 3), -4);
    Due.is("no seventh", x.pen(1, 6), -4);
    Due.is("i 7", x.pen(1, 7), -1);
    Due.is("i -2", x.pen(1, -2), -1);
    Due.is("colour 16", x.pen(16, 0), -1);
    Due.is("colour -1", x.pen(-1, 0), -1);
    Due.is("no faces: the way", x.pen(2, -1), -4);
    Due.is("no faces: the first", x.pen(2, 0), -4);
    Due.is("at once", x.pen(0, -1), 0);
    x = Due.of("1010101010101/0*13");
    Due.is("seven", x.pen(1, -1), 12);
    Due.is("the seventh", x.pen(1, 6), 7);
    x = Due.of("101010101010101/0*15");
    Due.is("eight", x.pen(1, -1), -3);
    Due.is("eight: an i-th", x.pen(1, 6), -3);
    Due.is("eight, i 7", x.pen(1, 7), -1);
  }

  private static void pensOfSeveralWays() {
    // the nearest first is not always the least
    DotLines x = Due.of("0001000000000001/0*16/10*15");
    Due.is("down first, then along", x.pen(1, -1), 2 + 5 + 12);
    Due.is("first", x.pen(1, 0), x.faceOf(32));
    Due.is("second", x.pen(1, 1), x.faceOf(3));
    Due.is("third", x.pen(1, 2), x.faceOf(15));
    // of the same least way the first by numbers
    x = Due.of("001/000/100");
    Due.is("either way", x.pen(1, -1), 6);
    Due.is("the lower number first", x.pen(1, 0), 1);
    // point 0 is what the pen goes to: the upper left corner of a face's first dot
    x = Due.of("0001/0111/0000");
    Due.is("point 0", x.pen(1, -1), 3);
  }
}
