import java.util.ArrayList;
import java.util.Arrays;
import java.util.List;
import java.util.Random;

/**
 * The bounds that part 5 of the terms names for CHANGES and THE IMAGE, and the promises 31 to 34: none and 20 that
 * are kept, the twenty-first, what ends DOING AGAIN and what does not, an image of nothing and of all there can be.
 */
public final class ChangeBoundsTest {
  private static final String ALL = "1*16/1*16/1*16/1*16/1*16/1*16/1*16/1*16/1*16/1*16/1*16/1*16";

  public static void main(String[] args) {
    fromNoneTo20();
    theTwentyFirst();
    twentyBackAndForth();
    eachKindOfChange();
    ofOneDotAndOfAll();
    whatChangesNoDot();
    whatEndsDoingAgain();
    whatDoesNotEndDoingAgain();
    whatForgets();
    backAsTheDotsWere();
    longRunsByChance();
    noImage();
    theImageOfANewObject();
    theLatestImage();
    imagesOfTonesAndTouch();
    imagesOfNoRulesAndOfTwelve();
    imagesOfEachRuleAlone();
    imagesOfTheGreatestAndTheLeast();
    whatIsNoneOfTheImage();
    Due.end();
  }

  /** A change that is told from every other one: dot n mod 16 becomes of another colour. */
  private static void change(DotLines x, int n) {
    x.paint(n % 16, x.dot(n % 16) == 15 ? 0 : x.dot(n % 16) + 1);
  }

  private static long told(DotLines x) {
    long sum = 1;
    for (int at = 0; at < 16; at++) {
      sum = 31 * sum + x.dot(at);
    }
    return sum;
  }

  private static void fromNoneTo20() {
    for (int changes = 0; changes <= 20; changes++) {
      DotLines x = Due.of("0*16");
      long first = told(x);
      for (int n = 0; n < changes; n++) {
        change(x, n);
      }
      long last = told(x);
      Due.is("may be undone", x.count(7), changes);
      Due.is("nothing to do again", x.redo(), -3);
      for (int n = 0; n < changes; n++) {
        Due.is("undone " + n + " of " + changes, x.undo(), 1);
        Due.is("so many fewer", x.count(7), changes - 1 - n);
      }
      Due.is("no more of " + changes, x.undo(), -3);
      Due.is("as at first", told(x) == first ? 1 : 0, 1);
      for (int n = 0; n < changes; n++) {
        Due.is("done again " + n + " of " + changes, x.redo(), 1);
        Due.is("so many more", x.count(7), n + 1);
      }
      Due.is("no more again of " + changes, x.redo(), -3);
      Due.is("as at last", told(x) == last ? 1 : 0, 1);
    }
  }

  private static void theTwentyFirst() {
    for (int changes = 21; changes <= 62; changes++) {
      DotLines x = Due.of("0*16");
      long kept = 0;
      for (int n = 0; n < changes; n++) {
        kept = n == changes - 20 ? told(x) : kept;
        change(x, n);
      }
      Due.is("20 of " + changes, x.count(7), 20);
      for (int n = 0; n < 20; n++) {
        Due.is("undone", x.undo(), 1);
      }
      Due.is("the one ahead is not kept", x.undo(), -3);
      Due.is("as it was ahead of those", told(x) == kept ? 1 : 0, 1);
      Due.is("and may be done again", x.redo(), 1);
      Due.is("and undone again", x.undo(), 1);
    }
  }

  private static void twentyBackAndForth() {
    for (int back = 1; back <= 20; back++) {
      DotLines x = Due.of("0*16");
      for (int n = 0; n < 20; n++) {
        change(x, n);
      }
      for (int n = 0; n < back; n++) {
        x.undo();
      }
      change(x, 7);
      Due.is("kept behind " + back + " undone", x.count(7), 21 - back);
      Due.is("none to do again", x.redo(), -3);
      for (int n = 0; n < 21 - back; n++) {
        Due.is("undone", x.undo(), 1);
      }
      Due.is("no more", x.undo(), -3);
    }
  }

  private static void eachKindOfChange() {
    DotLines x = Due.of("0120/0000/0033");
    Due.is("painted", x.paint(0, 5), 0);
    Due.is("undone", x.undo(), 1);
    Due.is("as ahead", x.dot(0), 0);
    Due.is("done again", x.redo(), 1);
    Due.is("as behind", x.dot(0), 5);
    Due.is("cleaned: 5, 1, 2, yet not the twos", x.clean(1), 3);
    Due.is("undone", x.undo(), 3);
    Due.is("1 again", x.dot(1), 1);
    Due.is("5 stays", x.dot(0), 5);
    Due.is("done again", x.redo(), 3);
    Due.is("1 is cleaned", x.dot(1) == 1 ? 1 : 0, 0);
    Due.is("made few", x.makeFew(1), 2);
    Due.is("undone", x.undo(), 2);
    Due.is("3 again", x.dot(35), 3);
    Due.is("done again", x.redo(), 2);
    Due.is("0 now", x.dot(35), 0);
    Due.is("three changes", x.count(7), 3);
    Due.is("the latest first", x.undo() * 100 + x.undo() * 10 + x.undo(), 231);
    Due.is("the first first", x.redo() * 100 + x.redo() * 10 + x.redo(), 132);
  }

  private static void ofOneDotAndOfAll() {
    DotLines x = new DotLines();
    Due.is("the one dot", x.paint(0, 1), 0);
    Due.is("undone", x.undo(), 1);
    Due.is("done again", x.redo(), 1);
    x = Due.of(ALL);
    for (int at = 0; at < 192; at++) {
      if ((at % 16 + at / 16) % 2 == 0) {
        x.paint(at, 3);
      }
    }
    Due.is("each becomes what is beside it", x.clean(1), 192);
    Due.is("all undone", x.undo(), 192);
    Due.is("all done again", x.redo(), 192);
    Due.is("the first", x.dot(0), 1);
    Due.is("the last", x.dot(191), 1);
    Due.is("one between", x.dot(190), 3);
  }

  private static void whatChangesNoDot() {
    DotLines x = Due.of("0001/0001/1111");
    x.paint(0, 1);
    x.undo();
    Due.is("with its own colour", x.paint(0, 0), 0);
    Due.is("cleaning of none", x.clean(5), 0);
    Due.is("made few as they are", x.makeFew(2), 0);
    Due.is("refused", x.paint(0, 16), -1);
    Due.is("none may be undone", x.count(7), 0);
    Due.is("what was undone can still be done again", x.redo(), 1);
    Due.is("it is", x.dot(0), 1);
  }

  private static void whatEndsDoingAgain() {
    String[] kinds = {"paint", "clean", "makeFew"};
    for (String kind : kinds) {
      DotLines x = Due.of("0001/0031/1111");
      x.paint(0, 2);
      x.paint(1, 2);
      x.undo();
      x.undo();
      int changed = kind.equals("paint") ? x.paint(34, 5) : kind.equals("clean") ? x.clean(1) : x.makeFew(2);
      Due.is(kind, changed, 1);
      Due.is(kind + " ends it", x.redo(), -3);
      Due.is(kind + " is the one change", x.count(7), 1);
      Due.is(kind + " undone", x.undo(), 1);
      Due.is("and done again", x.redo(), 1);
      Due.is("and no more", x.redo(), -3);
    }
  }

  private static void whatDoesNotEndDoingAgain() {
    DotLines x = Due.of("012/012");
    x.paint(0, 7);
    x.clean(1);
    x.undo();
    x.undo();
    x.tone(0, 200);
    x.touch(1);
    Due.text(x, 1, "A:s>0");
    x.rule(1);
    x.tell(0, false);
    x.image();
    x.keep(2, 1, 0, 0, 1);
    x.row(3, 2, 4);
    x.put(3, 0, 4);
    x.copy(3, 0, 3, 1, 2);
    x.keep(2, 0, 0, 0, 0);
    Due.text(x, 1, "0*17");
    Due.is("a picture that is refused", x.picture(1), -102);
    Due.is("what is refused", x.clean(21), -1);
    Due.is("nothing to undo", x.undo(), -3);
    Due.is("the first again", x.redo(), 1);
    Due.is("it is", x.dot(0), 7);
    Due.is("the second again, of two dots", x.redo(), 2);
    Due.is("no third", x.redo(), -3);
  }

  private static void whatForgets() {
    DotLines x = Due.of("012/012");
    x.paint(0, 7);
    x.paint(0, 8);
    x.undo();
    x.picture(0);
    Due.is("a picture read: none to undo", x.undo(), -3);
    Due.is("none to do again", x.redo(), -3);
    Due.is("none", x.count(7), 0);
    x.image();
    x.paint(0, 7);
    x.paint(0, 8);
    x.undo();
    x.restore();
    Due.is("an image restored: none to undo", x.undo(), -3);
    Due.is("none to do again then", x.redo(), -3);
    Due.is("none then", x.count(7), 0);
    for (int n = 0; n < 20; n++) {
      x.paint(0, n % 2 + 1);
    }
    Due.is("room for 20 again", x.count(7), 20);
    Due.is("undone to the first", x.undo(), 1);
  }

  /** Touch and tones decided what changed; undone and done again are the dots that did. */
  private static void backAsTheDotsWere() {
    DotLines x = Due.of("0120/0210");
    Due.is("by sides all four are alone", x.clean(1), 4);
    long cleaned = told(x);
    x.undo();
    x.touch(1);
    Due.is("by corners none is", x.clean(1), 0);
    Due.is("done again as it was", x.redo(), 4);
    Due.is("the same dots", told(x) == cleaned ? 1 : 0, 1);
    Due.is("and undone", x.undo(), 4);
    Due.is("1", x.dot(1), 1);
    Due.is("2", x.dot(2), 2);
    Due.is("touch is as it was told", x.touch(1), 1);
  }

  // ---- against a list of all that was

  private static void longRunsByChance() {
    for (int seed = 0; seed < 40; seed++) {
      Random chance = new Random(seed);
      DotLines x = Due.of("0123/0123/0123");
      List<int[]> back = new ArrayList<>();
      List<int[]> forth = new ArrayList<>();
      int[] now = dots(x);
      for (int n = 0; n < 30; n++) {
        int answer = 0;
        int[] due = now;
        int how = chance.nextInt(9);
        if (how < 3) {
          answer = x.undo();
          if (!back.isEmpty()) {
            due = back.remove(back.size() - 1);
            forth.add(now);
          }
          Due.is("seed " + seed + ": undo", answer, due == now ? -3 : unlike(now, due));
        } else if (how < 5) {
          answer = x.redo();
          if (!forth.isEmpty()) {
            due = forth.remove(forth.size() - 1);
            back.add(now);
          }
          Due.is("seed " + seed + ": redo", answer, due == now ? -3 : unlike(now, due));
        } else {
          makeChange(x, how, chance);
          due = dots(x);
          if (unlike(now, due) > 0) {
            back.add(now);
            forth.clear();
          }
          if (back.size() > 20) {
            back.remove(0);
          }
        }
        now = dots(x);
        Due.is("seed " + seed + ": dots", unlike(now, due), 0);
        Due.is("seed " + seed + ": kept", x.count(7), back.size());
      }
    }
  }

  private static void makeChange(DotLines x, int how, Random chance) {
    if (how == 5 && chance.nextInt(4) == 0) {
      x.clean(1 + chance.nextInt(3));
    } else if (how == 6 && chance.nextInt(4) == 0) {
      x.makeFew(1 + chance.nextInt(4));
    } else {
      x.paint(Due.at(chance.nextInt(4), chance.nextInt(3)), chance.nextInt(4));
    }
  }

  private static int[] dots(DotLines x) {
    int[] all = new int[12];
    for (int n = 0; n < 12; n++) {
      all[n] = x.dot(Due.at(n % 4, n / 4));
    }
    return all;
  }

  private static int unlike(int[] a, int[] b) {
    int count = 0;
    for (int n = 0; n < 12; n++) {
      count += a[n] != b[n] ? 1 : 0;
    }
    return Arrays.equals(a, b) ? 0 : count;
  }

  // ---- promises 33, 34

  private static void noImage() {
    DotLines x = Due.of("01");
    x.paint(0, 1);
    Due.is("none", x.restore(), -3);
    Due.is("the change stays", x.count(7), 1);
    Due.is("the dot stays", x.dot(0), 1);
    Due.is("taken", x.image(), 2);
    Due.is("there is one", x.restore(), 2);
    Due.is("as often as one likes", x.restore(), 2);
  }

  private static void theImageOfANewObject() {
    DotLines x = new DotLines();
    Due.is("one dot", x.image(), 1);
    Due.show(x, ALL);
    x.touch(1);
    x.tone(15, 0);
    Due.text(x, 1, "A:s>0");
    x.rule(1);
    Due.is("one dot again", x.restore(), 1);
    Due.is("wide", x.count(0), 1);
    Due.is("high", x.count(1), 1);
    Due.is("of colour 0", x.dot(0), 0);
    Due.is("and no more", x.dot(1), -1);
    Due.is("touch", x.touch(0), 0);
    Due.is("tone", x.tone(15, 0), 255);
    Due.is("rules", x.count(5), 0);
  }

  private static void theLatestImage() {
    DotLines x = Due.of("0");
    Due.is("one", x.image(), 1);
    Due.show(x, "111");
    Due.is("three", x.image(), 3);
    Due.show(x, "22");
    Due.is("the latest, not the first", x.restore(), 3);
    Due.is("its dot", x.dot(2), 1);
    x.paint(2, 5);
    Due.is("what is painted later is none of it", x.restore(), 3);
    Due.is("its dot again", x.dot(2), 1);
    x.paint(2, 5);
    x.paint(1, 5);
    x.image();
    Due.is("taking it forgets no change", x.count(7), 2);
    x.undo();
    x.undo();
    Due.is("with what was painted ahead", x.restore(), 3);
    Due.is("as then", x.dot(2), 5);
    Due.is("none is kept", x.count(7), 0);
  }

  private static void imagesOfTonesAndTouch() {
    DotLines x = Due.of("01/10");
    for (int c = 0; c < 16; c++) {
      x.tone(c, c % 2 == 0 ? 0 : 255);
    }
    for (int touch = 0; touch < 2; touch++) {
      x.touch(touch);
      x.image();
      for (int c = 0; c < 16; c++) {
        x.tone(c, 100 + c);
      }
      x.touch(1 - touch);
      x.restore();
      for (int c = 0; c < 16; c++) {
        Due.is("tone " + c, x.tone(c, c % 2 == 0 ? 0 : 255), c % 2 == 0 ? 0 : 255);
      }
      Due.is("touch", x.touch(touch), touch);
      Due.is("faces by it", x.count(2), touch == 0 ? 4 : 2);
    }
  }

  private static void imagesOfNoRulesAndOfTwelve() {
    DotLines x = new DotLines();
    x.image();
    for (int r = 0; r < 12; r++) {
      Due.text(x, 0, (char) ('A' + r) + ":s=1");
      Due.is("rule", x.rule(0), r);
      x.tell(r, r % 3 == 1);
    }
    Due.is("the first that is told", x.sign(0), 'B');
    x.restore();
    Due.is("none then", x.count(5), 0);
    Due.is("none told", x.count(6), 0);
    Due.is("no sign", x.sign(0), -4);
    Due.is("none to be told", x.tell(0, true), -1);
    for (int r = 0; r < 12; r++) {
      Due.text(x, 0, (char) ('M' + r) + ":s=1");
      Due.is("room for all again", x.rule(0), r);
      x.tell(r, r % 3 == 2);
    }
    x.image();
    for (int r = 0; r < 12; r++) {
      x.tell(r, true);
    }
    x.restore();
    Due.is("twelve then", x.count(5), 12);
    Due.is("those told then", x.count(6), 4);
    Due.is("the first told then", x.sign(0), 'O');
    Due.is("no room then", x.rule(0), -2);
  }

  private static void imagesOfEachRuleAlone() {
    for (int alone = 0; alone < 12; alone++) {
      DotLines x = new DotLines();
      for (int r = 0; r < 12; r++) {
        Due.text(x, 0, (char) ('A' + r) + ":s=1");
        x.rule(0);
        x.tell(r, r == alone);
      }
      x.image();
      for (int r = 0; r < 12; r++) {
        x.tell(r, r != alone);
      }
      x.restore();
      Due.is("one is told", x.count(6), 1);
      Due.is("rule " + alone, x.sign(0), 'A' + alone);
    }
  }

  private static void imagesOfTheGreatestAndTheLeast() {
    DotLines x = Due.of(ALL);
    x.paint(191, 9);
    Due.is("all dots", x.image(), 192);
    Due.show(x, "5");
    Due.is("the picture is another", x.count(0) * x.count(1), 1);
    Due.is("all dots again", x.restore(), 192);
    Due.is("wide", x.count(0), 16);
    Due.is("high", x.count(1), 12);
    Due.is("the first dot", x.dot(0), 1);
    Due.is("the last dot", x.dot(191), 9);
    Due.is("its face", x.faceOf(191), 1);
  }

  private static void whatIsNoneOfTheImage() {
    DotLines x = Due.of("01");
    x.row(1, 2, 2);
    x.put(1, 0, 77);
    x.image();
    x.put(1, 0, 78);
    x.keep(2, 1, 0, 0, 1);
    x.restore();
    Due.is("rows stay as they are", x.element(1, 0), 78);
    Due.is("pieces stay", x.reach(2), 1);
    Due.is("texts stay", x.picture(0), 2);
  }
}
