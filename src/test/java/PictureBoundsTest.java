/**
 * The bounds that parts 1 and 2 of the terms name for pictures, and the promises 1 to 8: WIDE, HIGH, RUNS, LINES
 * and each sentence on FAULTS, DOTS, COLOURS, TONES, TOUCH, CLEANING.
 */
public final class PictureBoundsTest {
  private static final String COLOURS = "0123456789abcdef";
  private static final String TWELVE = "0*16/1*16/2*16/3*16/4*16/5*16/6*16/7*16/8*16/9*16/a*16/b*16";

  public static void main(String[] args) {
    aNewPicture();
    theFirstCallOfAll();
    wideFromOneTo16();
    highFromOneTo12();
    dotsAreTold16YAndX();
    coloursFrom0ToF();
    everyByteInEveryPlace();
    runsOnTheFirstLine();
    runsOnLaterLines();
    linesThatEndTooEarly();
    theThirteenthLine();
    aTextThatEndsTooEarly();
    textsOfAllThatCanBeHeld();
    aPictureForgetsChanges();
    paintFromTheFirstToTheLast();
    tonesFrom0To255();
    touchIs0Or1();
    cleaningFrom1To20();
    cleaningOfSizeNOrLess();
    cleaningOfSeveralTheLeast();
    cleaningAsAhead();
    cleaningOfWhatHasNoneBeside();
    Due.end();
  }

  private static int faultOf(String text) {
    DotLines x = new DotLines();
    Due.text(x, 0, text);
    return x.fault(0);
  }

  /** The fault, and that the picture is refused by it, or read. */
  private static void fault(String text, int want) {
    DotLines x = new DotLines();
    Due.text(x, 0, text);
    Due.is("fault of " + text, x.fault(0), want);
    int answer = x.picture(0);
    if (want == -4) {
      Due.is("picture " + text, answer, x.count(0) * x.count(1));
    } else {
      Due.is("picture " + text, answer, -100 - want);
      Due.is("wide as ahead of " + text, x.count(0), 1);
      Due.is("high as ahead of " + text, x.count(1), 1);
      Due.is("dot as ahead of " + text, x.dot(0), 0);
    }
  }

  private static String lines(String line, int high) {
    StringBuilder text = new StringBuilder(line);
    for (int y = 1; y < high; y++) {
      text.append('/').append(line);
    }
    return text.toString();
  }

  // ---- promise 1

  private static void aNewPicture() {
    DotLines x = new DotLines();
    Due.is("its one dot", x.dot(0), 0);
    Due.is("none beside", x.dot(1), -1);
    Due.is("none under", x.dot(16), -1);
    Due.is("one face", x.faceOf(0), 0);
    Due.is("no second one", x.face(1, 0), -1);
    int[] due = {1, 0, 0, 0, 0, 1, 1, 0, 0, 0, 1, 4};
    for (int what = 0; what < due.length; what++) {
      Due.is("new face " + what, x.face(0, what), due[what]);
    }
    for (int d = 0; d < 8; d++) {
      Due.is("shelf " + d + " holds nothing", x.reach(d), -11);
      Due.is("shelf " + d + " holds no text", x.fault(d), -11);
    }
    Due.is("painted", x.paint(0, 15), 0);
    Due.is("it is", x.dot(0), 15);
  }

  /** Nothing has been found of faces, borders and pieces ahead of it. */
  private static void theFirstCallOfAll() {
    Due.is("dot", new DotLines().dot(0), 0);
    Due.is("paint", new DotLines().paint(0, 1), 0);
    Due.is("clean", new DotLines().clean(20), 0);
    Due.is("faceOf", new DotLines().faceOf(0), 0);
    Due.is("size", new DotLines().face(0, 0), 1);
    Due.is("steps", new DotLines().face(0, 11), 4);
    Due.is("pair", new DotLines().pair(0, 0, 0), -1);
    Due.is("step", new DotLines().step(0, 3, 0), 3);
    Due.is("corners", new DotLines().corners(0, 0), 20);
    Due.is("cornered", new DotLines().cornered(0, 0, 1), 1);
    Due.is("inBand", new DotLines().inBand(0, 0, 2, 0), 0);
    Due.is("fewest", new DotLines().fewest(0, 0, -1), 4);
    Due.is("a piece", new DotLines().fewest(0, 0, 3), 3);
    Due.is("drawn", new DotLines().drawn(0, 0, 0), 1);
    Due.is("differ", new DotLines().differ(0, 0), 0);
    Due.is("breadth", new DotLines().breadth(0, 0), 1);
    Due.is("middle", new DotLines().breadth(0, 1), 1);
    Due.is("stroke", new DotLines().stroke(0, 16), 0);
    Due.is("like", new DotLines().like(0, 0), 1);
    Due.is("butFor", new DotLines().butFor(0, 0), 0);
    Due.is("leader", new DotLines().leader(0), 0);
    Due.is("few", new DotLines().few(1, 1), 1);
    Due.is("makeFew", new DotLines().makeFew(1), 0);
    Due.is("pen", new DotLines().pen(0, -1), 0);
    Due.is("its first", new DotLines().pen(0, 0), 0);
    Due.is("no pen", new DotLines().pen(1, -1), -4);
    Due.is("tell", new DotLines().tell(0, true), -1);
    Due.is("sign", new DotLines().sign(0), -4);
    Due.is("undo", new DotLines().undo(), -3);
    Due.is("redo", new DotLines().redo(), -3);
    Due.is("image", new DotLines().image(), 1);
    Due.is("restore", new DotLines().restore(), -3);
    Due.is("keep", new DotLines().keep(0, 1, 4, 0, 4), 0);
    Due.is("no such point", new DotLines().keep(0, 1, 4, 0, 5), -1);
    for (int what = 0; what < 9; what++) {
      Due.is("count " + what, new DotLines().count(what), what < 5 ? 1 : 0);
    }
  }

  // ---- wide 1 .. 16, high 1 .. 12

  private static void wideFromOneTo16() {
    for (int wide = 1; wide <= 16; wide++) {
      DotLines x = Due.of("7*" + wide);
      Due.is("wide " + wide, x.count(0), wide);
      Due.is("high 1", x.count(1), 1);
      Due.is("dots of " + wide, x.picture(0), wide);
      fault(COLOURS.substring(0, wide), -4);
    }
    fault("", 0);
    fault("7*17", 2);
    fault("7*0", 2);
    fault(COLOURS + "0", 16);
  }

  private static void highFromOneTo12() {
    for (int high = 1; high <= 12; high++) {
      DotLines x = Due.of(lines("3", high));
      Due.is("high " + high, x.count(1), high);
      Due.is("wide 1", x.count(0), 1);
      Due.is("dots of " + high, x.picture(0), high);
      Due.is("its last", x.dot(16 * (high - 1)), 3);
      Due.is("none under it", x.dot(16 * high), -1);
    }
    fault(lines("3", 13), 23);
  }

  private static void dotsAreTold16YAndX() {
    int[] wides = {1, 2, 15, 16};
    int[] highs = {1, 2, 11, 12};
    for (int wide : wides) {
      for (int high : highs) {
        DotLines x = Due.of(lines("5*" + wide, high));
        int dots = 0;
        for (int at = -17; at < 230; at++) {
          boolean there = at >= 0 && at % 16 < wide && at / 16 < high;
          Due.is(wide + " by " + high + ", dot " + at, x.dot(at), there ? 5 : -1);
          dots += x.dot(at) == 5 ? 1 : 0;
        }
        Due.is(wide + " by " + high, dots, wide * high);
      }
    }
  }

  private static void coloursFrom0ToF() {
    DotLines x = Due.of(COLOURS);
    for (int c = 0; c < 16; c++) {
      Due.is("colour " + c, x.dot(c), c);
    }
    Due.is("all of them", x.count(3), 16);
    Due.is("paint with the last", x.paint(0, 15), 0);
    Due.is("paint with the first", x.paint(15, 0), 15);
    Due.is("the last", x.dot(0), 15);
    Due.is("the first", x.dot(15), 0);
  }

  // ---- faults, byte by byte

  private static int faultWith(String ahead, int sign) {
    DotLines x = new DotLines();
    x.row(0, 0, ahead.length() + 1);
    for (int i = 0; i < ahead.length(); i++) {
      x.put(0, i, ahead.charAt(i));
    }
    x.put(0, ahead.length(), sign);
    return x.fault(0);
  }

  private static boolean isColour(int sign) {
    return (sign >= '0' && sign <= '9') || (sign >= 'a' && sign <= 'f');
  }

  private static void everyByteInEveryPlace() {
    for (int sign = 0; sign < 256; sign++) {
      boolean colour = isColour(sign);
      String byteIs = "byte " + sign;
      Due.is(byteIs + " at first", faultWith("", sign), colour ? -4 : 0);
      int behindColour = colour ? -4 : sign == '/' || sign == '*' ? 2 : 1;
      Due.is(byteIs + " behind a colour", faultWith("0", sign), behindColour);
      Due.is(byteIs + " behind /", faultWith("0/", sign), colour ? -4 : 2);
      Due.is(byteIs + " behind *", faultWith("0*", sign), sign >= '1' && sign <= '9' ? -4 : 2);
      int behind1 = colour ? -4 : sign == '/' ? 4 : 3;
      behind1 = sign >= '7' && sign <= '9' ? 2 : behind1;
      Due.is(byteIs + " behind *1", faultWith("0*1", sign), behind1);
      int behind2 = colour ? -4 : sign == '/' ? 4 : 3;
      behind2 = sign >= '0' && sign <= '9' ? 2 : behind2;
      Due.is(byteIs + " behind *2", faultWith("0*2", sign), behind2);
      Due.is(byteIs + " behind *0", faultWith("0*0", sign), 2);
      int behind10 = colour ? -4 : sign == '/' ? 5 : 4;
      Due.is(byteIs + " behind *10", faultWith("0*10", sign), behind10);
      Due.is(byteIs + " behind all of a line", faultWith("0*16", sign), sign == '/' ? 5 : 4);
    }
  }

  /** So many dots, told in runs whose end no digit follows. */
  private static String dots(char colour, int n) {
    return n == 0 ? "" : n == 1 ? "" + colour : colour + "*" + n;
  }

  private static void runsOnTheFirstLine() {
    for (int ahead = 0; ahead <= 16; ahead++) {
      String text = dots('a', ahead);
      for (int run = 0; run <= 99; run++) {
        int place = text.length() + (ahead == 16 ? 0 : 2);
        boolean fits = run >= 1 && ahead + run <= 16;
        Due.is(text + "b*" + run, faultOf(text + "b*" + run), fits ? -4 : place);
      }
      Due.is(text + "b", faultOf(text + "b"), ahead == 16 ? text.length() : -4);
    }
  }

  private static void runsOnLaterLines() {
    for (int wide = 1; wide <= 16; wide++) {
      for (int ahead = 0; ahead <= wide; ahead++) {
        String text = dots('a', wide) + "/" + dots('c', ahead);
        for (int run = 0; run <= 18; run++) {
          String whole = text + "b*" + run;
          int due = run + ahead == wide ? -4 : whole.length();
          due = run == 0 || run + ahead > wide ? text.length() + 2 : due;
          due = ahead == wide ? text.length() : due;
          Due.is(whole, faultOf(whole), due);
        }
        int oneDot = ahead == wide ? text.length() : ahead + 1 == wide ? -4 : text.length() + 1;
        Due.is(text + "b", faultOf(text + "b"), oneDot);
      }
    }
  }

  private static void linesThatEndTooEarly() {
    for (int wide = 2; wide <= 16; wide++) {
      for (int some = 1; some < wide; some++) {
        String text = dots('a', wide) + "/" + dots('b', some);
        fault(text, text.length());
        fault(text + "/", text.length());
        fault(text + "/" + dots('c', wide), text.length());
      }
    }
    fault("00//00", 3);
    fault("/00", 0);
  }

  private static void theThirteenthLine() {
    fault(TWELVE, -4);
    Due.is("the / ahead", TWELVE.length(), 59);
    fault(TWELVE + "/", 59);
    fault(TWELVE + "/c", 59);
    fault(TWELVE + "/c*16", 59);
    fault(TWELVE + "/g", 59);
    fault(TWELVE + "0", 59);
    String eleven = TWELVE.substring(0, 54);
    fault(eleven, -4);
    fault(eleven + "/", 55);
    fault(eleven + "/b*15", 59);
    fault(eleven + "/b*15/", 59);
  }

  private static void aTextThatEndsTooEarly() {
    fault("", 0);
    fault("0/", 2);
    fault("0*", 2);
    fault("0*3/", 4);
    fault("0*3/0*", 6);
    fault("0*3/0*2", 7);
    fault("0*3/00", 6);
    fault(lines("0", 12) + "*", 24);
  }

  private static void textsOfAllThatCanBeHeld() {
    String text = lines("0123456789abcdef", 6) + "/f*14ee/e*14dd/d*16";
    Due.is("as many bytes as a row holds", text.length(), 120);
    DotLines x = Due.of(text);
    Due.is("nine lines", x.count(1), 9);
    Due.is("the last dot", x.dot(Due.at(15, 8)), 13);
    Due.is("one dot of the last but one line", x.dot(Due.at(14, 7)), 13);
    String tooEarly = text.substring(0, 115) + "/d*15";
    fault(tooEarly, 120);
    String onceMore = lines("0123456789abcdef", 6) + "/f*16/e*15e/d*14dd/";
    Due.is("as many bytes again", onceMore.length(), 120);
    fault(onceMore, 120);
    fault(text.substring(0, 119) + "7", 118);
  }

  private static void aPictureForgetsChanges() {
    DotLines x = Due.of("00");
    for (int n = 1; n <= 20; n++) {
      x.paint(0, n % 2);
    }
    Due.is("with one dot that stays as it is, 20", x.count(7), 20);
    x.undo();
    Due.is("the same picture read", x.picture(0), 2);
    Due.is("none to undo", x.count(7), 0);
    Due.is("no undo", x.undo(), -3);
    Due.is("no redo", x.redo(), -3);
  }

  // ---- promises 4, 5

  private static void paintFromTheFirstToTheLast() {
    DotLines x = Due.of(TWELVE);
    Due.is("the first dot", x.paint(0, 15), 0);
    Due.is("the last dot", x.paint(191, 0), 11);
    Due.is("behind the last", x.paint(192, 0), -1);
    Due.is("ahead of the first", x.paint(-1, 0), -1);
    Due.is("the end of a line", x.paint(15, 15), 0);
    Due.is("the next line's first", x.paint(16, 15), 1);
    Due.is("beside it as it was", x.dot(17), 1);
    Due.is("painted first", x.dot(0), 15);
    Due.is("painted last", x.dot(191), 0);
    Due.is("four changes", x.count(7), 4);
    Due.is("with its own colour", x.paint(191, 0), 0);
    Due.is("is no change", x.count(7), 4);
  }

  // ---- promise 6

  private static void tonesFrom0To255() {
    DotLines x = new DotLines();
    for (int c = 0; c < 16; c++) {
      Due.is("at first 17 times its number", x.tone(c, 255), 17 * c);
      Due.is("greatest", x.tone(c, 0), 255);
      Due.is("least", x.tone(c, 254), 0);
      Due.is("above", x.tone(c, 256), -1);
      Due.is("below", x.tone(c, -1), -1);
      Due.is("refused: as ahead", x.tone(c, c), 254);
    }
    for (int c = 0; c < 16; c++) {
      Due.is("each has its own", x.tone(c, c), c);
    }
    Due.is("ahead of the first", x.tone(-1, 0), -1);
    Due.is("behind the last", x.tone(16, 0), -1);
  }

  // ---- promise 7

  private static void touchIs0Or1() {
    DotLines x = Due.of("01/10");
    Due.is("below", x.touch(-1), -1);
    Due.is("above", x.touch(2), -1);
    Due.is("0 at first", x.touch(0), 0);
    Due.is("faces by sides", x.count(2), 4);
    Due.is("1", x.touch(1), 0);
    Due.is("faces by corners", x.count(2), 2);
    Due.is("above again", x.touch(2), -1);
    Due.is("refused: still 1", x.touch(1), 1);
    Due.is("back", x.touch(0), 1);
    Due.is("faces by sides again", x.count(2), 4);
  }

  // ---- promise 8

  private static void cleaningFrom1To20() {
    int[] never = {0, -1, 21, 22};
    for (int n : never) {
      Due.is("clean " + n, Due.of("01").clean(n), -1);
    }
    Due.is("clean 1", Due.of("01").clean(1), 2);
    Due.is("clean 20", Due.of("01").clean(20), 2);
  }

  /** A face of so many ones in a picture of zeros, which are more than 20. */
  private static DotLines faceOfSize(int size) {
    DotLines x = Due.of("0*16/0*16/0*16");
    for (int at = 0; at < size; at++) {
      x.paint(at, 1);
    }
    return x;
  }

  private static void cleaningOfSizeNOrLess() {
    for (int size = 1; size <= 21; size++) {
      for (int n = 1; n <= 20; n++) {
        DotLines x = faceOfSize(size);
        int ahead = x.count(7);
        int cleaned = size <= n ? size : 0;
        Due.is("a face of " + size + ", clean " + n, x.clean(n), cleaned);
        Due.is("faces of " + size + ", clean " + n, x.count(2), cleaned > 0 ? 1 : 2);
        Due.is("changes", x.count(7), Math.min(20, ahead + (cleaned > 0 ? 1 : 0)));
      }
    }
  }

  private static void cleaningOfSeveralTheLeast() {
    // the dot in the middle has four sides
    String[] pictures = {"505/212/505", "050/313/050", "0f0/f9f/0f0", "010/292/030", "030/295/040", "000/091/000"};
    int[] due = {0, 3, 15, 2, 2, 0};
    for (int n = 0; n < pictures.length; n++) {
      DotLines x = Due.of(pictures[n]);
      x.paint(17, 14);
      x.clean(1);
      Due.is("the middle of " + pictures[n], x.dot(17), due[n]);
    }
    // sides are counted, not dots: f has two sides to the face of 1, all others have one
    DotLines x = Due.of("0500/61f0/711a/0890");
    x.clean(3);
    Due.is("most sides are to f", x.dot(17), 15);
    Due.is("for all of the face", x.dot(Due.at(2, 2)), 15);
  }

  private static void cleaningAsAhead() {
    // each takes the other's colour, as it was ahead, and not what it has become
    DotLines x = Due.of("0123");
    Due.is("all four", x.clean(1), 4);
    int[] due = {1, 0, 1, 2};
    for (int at = 0; at < 4; at++) {
      Due.is("dot " + at, x.dot(at), due[at]);
    }
    Due.is("one change", x.count(7), 1);
    Due.is("undone at once", x.undo(), 4);
    // sizes are as ahead, too: 1 becomes 0 and makes that face no smaller one
    x = Due.of("011/222");
    Due.is("sizes 1 and 2 of 1, 2, 3", x.clean(2), 3);
    Due.is("0 has a side to 1 and to 2: the least", x.dot(0), 1);
    Due.is("1 has two sides to 2", x.dot(1), 2);
    Due.is("2 is greater", x.dot(16), 2);
  }

  private static void cleaningOfWhatHasNoneBeside() {
    for (int size = 1; size <= 16; size++) {
      DotLines x = Due.of("3*" + size);
      Due.is("all is one face of " + size, x.clean(20), 0);
      Due.is("it stays", x.dot(0), 3);
      Due.is("that is no change", x.count(7), 0);
    }
  }
}
