/** Promises 31 to 34: undo, redo, image, restore. */
public final class ChangesTest {
  public static void main(String[] args) {
    backAndForth();
    twentyAreKept();
    images();
    Due.end();
  }

  private static void backAndForth() {
    DotLines x = Due.of("000/010/000");
    Due.is("nothing to undo", x.undo(), -3);
    Due.is("nothing to redo", x.redo(), -3);
    x.paint(0, 5);
    Due.is("clean", x.clean(1), 2);
    Due.is("two", x.count(7), 2);
    Due.is("clean undone", x.undo(), 2);
    Due.is("the middle", x.dot(17), 1);
    Due.is("the corner is still painted", x.dot(0), 5);
    Due.is("paint undone", x.undo(), 1);
    Due.is("the corner", x.dot(0), 0);
    Due.is("no more", x.undo(), -3);
    Due.is("none that may be undone", x.count(7), 0);
    Due.is("paint again", x.redo(), 1);
    Due.is("painted again", x.dot(0), 5);
    x.tone(1, 3);
    x.touch(1);
    Due.text(x, 1, "A:s>1");
    x.rule(1);
    x.tell(0, false);
    x.image();
    Due.is("those are no changes", x.count(7), 1);
    Due.is("what changes no dot is none", x.paint(0, 5), 5);
    Due.is("what is refused is none", x.paint(3, 5), -1);
    Due.is("clean again, as it was", x.redo(), 2);
    Due.is("no more again", x.redo(), -3);
    Due.is("the middle again", x.dot(17), 0);
    Due.is("undone once more", x.undo(), 2);
    Due.is("another change", x.paint(1, 7), 0);
    Due.is("forgets what was undone", x.redo(), -3);
    Due.is("two again", x.count(7), 2);
    Due.is("back", x.undo(), 1);
    Due.is("tones stay", x.tone(1, 3), 3);
    Due.is("faces after undo", x.count(2), 3);
    x = Due.of("12/12");
    x.makeFew(1);
    Due.is("made few, undone", x.undo(), 2);
    Due.is("the dot", x.dot(1), 2);
    Due.is("and again", x.redo(), 2);
    Due.is("the dot again", x.dot(1), 1);
  }

  private static void twentyAreKept() {
    DotLines x = Due.of("0*16");
    for (int n = 1; n <= 25; n++) {
      x.paint(n % 16, n % 15 + 1);
      Due.is("kept", x.count(7), Math.min(n, 20));
    }
    for (int n = 25; n > 5; n--) {
      Due.is("undo " + n, x.undo(), 1);
      Due.is("as it was ahead of " + n, x.dot(n % 16), n > 16 ? (n - 16) % 15 + 1 : 0);
    }
    Due.is("no more than 20", x.undo(), -3);
    Due.is("the fifth stays", x.dot(5), 6);
    for (int n = 6; n <= 25; n++) {
      Due.is("redo " + n, x.redo(), 1);
      Due.is("as it was behind " + n, x.dot(n % 16), n % 15 + 1);
    }
    Due.is("no more", x.redo(), -3);
    for (int n = 0; n < 7; n++) {
      x.undo();
    }
    Due.is("thirteen", x.count(7), 13);
    x.paint(0, 15);
    Due.is("fourteen", x.count(7), 14);
    Due.is("none again", x.redo(), -3);
  }

  private static void images() {
    DotLines x = Due.of("012/345");
    Due.is("no image", x.restore(), -3);
    x.paint(0, 9);
    x.tone(2, 200);
    x.touch(1);
    Due.text(x, 1, "A:s>0");
    Due.text(x, 2, "B:s>0");
    x.rule(1);
    x.rule(2);
    x.tell(0, false);
    Due.is("image", x.image(), 6);
    Due.is("changes stay", x.count(7), 1);
    Due.show(x, "0*16/1*16/2*16");
    x.tone(2, 3);
    x.touch(0);
    x.tell(0, true);
    x.tell(1, false);
    x.rule(2);
    x.paint(3, 3);
    x.paint(4, 3);
    x.undo();
    Due.is("restore", x.restore(), 6);
    Due.is("undo is forgotten", x.undo(), -3);
    Due.is("redo is forgotten", x.redo(), -3);
    Due.is("wide", x.count(0), 3);
    Due.is("high", x.count(1), 2);
    Due.is("dot", x.dot(0), 9);
    Due.is("last dot", x.dot(18), 5);
    Due.is("tone", x.tone(2, 200), 200);
    Due.is("touch", x.touch(1), 1);
    Due.is("rules", x.count(5), 2);
    Due.is("told", x.count(6), 1);
    Due.is("sign", x.sign(0), 'B');
    Due.is("faces", x.count(2), 6);
    x.paint(0, 1);
    x.tell(1, false);
    Due.is("restored twice", x.restore(), 6);
    Due.is("dot again", x.dot(0), 9);
    Due.is("sign again", x.sign(0), 'B');
    Due.show(x, "00");
    Due.is("another image", x.image(), 2);
    Due.text(x, 3, "C:s=1");
    Due.is("a rule more", x.rule(3), 2);
    Due.show(x, "000");
    Due.is("the later one", x.restore(), 2);
    Due.is("the rule is gone", x.count(5), 2);
    Due.text(x, 3, "D:s=2");
    Due.is("another in its place", x.rule(3), 2);
    x.tell(1, false);
    Due.is("that is told", x.sign(0), 'D');
    Due.show(x, "000");
    Due.is("shelves are no part of it", x.picture(0), 3);
  }
}
