import java.util.function.Supplier;
import java.util.function.ToLongFunction;

/**
 * An object in which something of every kind is held, and all that can be asked of an object: two that were
 * made alike are asked, one of them behind a refused call, and have to answer alike.
 *
 * On its shelves: 0 the picture's text, 1 shorts, 2 ints, 3 a piece, 4 a rule's text, 5 a text that is neither
 * a picture's nor a rule's, 6 a pen, 7 nothing. The picture is 5 wide, 4 high; 2 of 3 rules are told; 2 changes
 * may be undone, 1 done again; an image is taken.
 */
final class Rich {
  static final int WIDE = 5;
  static final int HIGH = 4;
  static final int FACES = 8;
  static final int RULES = 3;

  static DotLines made() {
    DotLines x = new DotLines();
    Due.show(x, "0112/0012/2*4");
    x.tone(3, 200);
    x.touch(1);
    rule(x, "A:s>1");
    rule(x, "B:k>0");
    x.tell(0, false);
    x.image();
    Due.show(x, "10203/b*4c/bdbec/b*4c");
    x.tone(3, 100);
    x.touch(0);
    rule(x, "C:d>0");
    x.tell(0, true);
    x.tell(1, false);
    x.paint(0, 7);
    x.paint(Due.at(3, 2), 11);
    x.clean(1);
    x.undo();
    x.row(1, 1, 3);
    x.put(1, 0, 5);
    x.put(1, 2, -700);
    x.row(2, 2, 3);
    x.put(2, 0, 8);
    x.put(2, 1, -70000);
    x.keep(3, 1, 0, 0, 2);
    Due.text(x, 5, "00/0");
    x.keep(6, 1, 4, 5, 2);
    return x;
  }

  private static void rule(DotLines x, String text) {
    Due.text(x, 4, text);
    x.rule(4);
  }

  /** Changes the object: what can be undone, done again and restored is seen by doing so. */
  static String seen(DotLines x) {
    StringBuilder all = new StringBuilder();
    shelves(x, all);
    picture(x, all);
    int undone = 0;
    while (undone < 25 && told(all, x.undo()) >= 0) {
      dots(x, all);
      undone++;
    }
    int redone = 0;
    while (redone < 25 && told(all, x.redo()) >= 0) {
      dots(x, all);
      redone++;
    }
    all.append(" image");
    told(all, x.restore());
    picture(x, all);
    return all.toString();
  }

  private static int told(StringBuilder all, int answer) {
    all.append(' ').append(answer);
    return answer;
  }

  private static void picture(DotLines x, StringBuilder all) {
    all.append(" counts");
    for (int what = 0; what < 9; what++) {
      told(all, x.count(what));
    }
    dots(x, all);
    all.append(" tones");
    for (int c = 0; c < 16; c++) {
      int was = x.tone(c, 0);
      x.tone(c, was);
      told(all, was);
    }
    all.append(" touch");
    int touch = x.touch(0);
    x.touch(touch);
    told(all, touch);
    all.append(" signs");
    for (int f = 0; f < Math.min(10, x.count(2)); f++) {
      told(all, x.sign(f));
    }
  }

  private static void dots(DotLines x, StringBuilder all) {
    all.append(" dots");
    for (int y = 0; y < x.count(1); y++) {
      for (int u = 0; u < x.count(0); u++) {
        told(all, x.dot(Due.at(u, y)));
      }
    }
  }

  private static void shelves(DotLines x, StringBuilder all) {
    for (int d = 0; d < 8; d++) {
      all.append(" shelf");
      told(all, x.reach(d));
      told(all, x.toss(d));
      told(all, x.fault(d));
      told(all, x.ruleFault(d));
      for (int i = 0; i < 120 && Due.thrown(x, d, i) == 0; i++) {
        all.append(' ').append(x.element(d, i));
      }
    }
  }

  /** What is refused answers so, and changes nothing. */
  static void refused(String what, Supplier<DotLines> how, ToLongFunction<DotLines> call, long want) {
    DotLines x = how.get();
    Due.is(what, call.applyAsLong(x), want);
    Due.is(what + ", again", call.applyAsLong(x), want);
    Due.same(what + " changes nothing", seen(x), seen(how.get()));
  }

  static void refused(String what, ToLongFunction<DotLines> call, long want) {
    refused(what, Rich::made, call, want);
  }

  /** Below and above what is allowed, next to it and as far as numbers go. */
  static int[] outside(int least, int most) {
    return new int[] {least - 1, Integer.MIN_VALUE, most + 1, Integer.MAX_VALUE};
  }
}
