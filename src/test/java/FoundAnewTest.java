import java.util.Random;
import java.util.function.Consumer;
import java.util.function.ToLongFunction;

/**
 * What was found of a picture is never told of another one: two calls that change it come between two questions;
 * and in long runs each question is answered as by an object that is new and has been asked nothing else.
 */
public final class FoundAnewTest {
  public static void main(String[] args) {
    for (int one = 0; one < 12; one++) {
      for (int other = 0; other < 12; other++) {
        DotLines asked = made();
        questions(asked);
        call(one).accept(asked);
        call(other).accept(asked);
        DotLines notAsked = made();
        call(one).accept(notAsked);
        call(other).accept(notAsked);
        Due.same("calls " + one + ", " + other, questions(asked), questions(notAsked));
        Due.same("asked again " + one + ", " + other, questions(asked), questions(notAsked));
      }
    }
    for (int seed = 0; seed < 30; seed++) {
      longRun(new Random(seed), "seed " + seed + ", call ");
    }
    Due.end();
  }

  // ---- long runs

  private static void longRun(Random chance, String name) {
    DotLines x = new DotLines();
    show(x, chance, 0);
    rules(x);
    x.image();
    int[] set = {0, 17, 34, 51, 0};
    for (int n = 0; n < 250; n++) {
      if (chance.nextInt(3) == 0) {
        change(x, chance, set);
      }
      ToLongFunction<DotLines> question = question(chance, x.count(2));
      Due.is(name + n, question.applyAsLong(x), question.applyAsLong(asNew(x, set)));
    }
  }

  private static void rules(DotLines x) {
    Due.text(x, 2, "A:g>1&h=0");
    Due.text(x, 3, "B:k>1|d+n>2");
    x.rule(2);
    x.rule(3);
  }

  private static void show(DotLines x, Random chance, int shelf) {
    int wide = 2 + chance.nextInt(7);
    int high = 2 + chance.nextInt(7);
    StringBuilder text = new StringBuilder();
    for (int v = 0; v < high; v++) {
      text.append(v == 0 ? "" : "/");
      for (int u = 0; u < wide; u++) {
        text.append(chance.nextInt(3));
      }
    }
    Due.text(x, shelf, text.toString());
    x.picture(shelf);
  }

  /** Tones of 0 to 3, and touch, are told of in set: to ask the object itself would be a change of it. */
  private static void change(DotLines x, Random chance, int[] set) {
    int how = chance.nextInt(20);
    if (how < 8) {
      x.paint(Due.at(chance.nextInt(x.count(0)), chance.nextInt(x.count(1))), chance.nextInt(4));
    } else if (how < 13) {
      call(how == 8 || how == 9 ? 0 : how == 10 || how == 11 ? 1 : 4).accept(x);
    } else if (how < 16) {
      set[4] = chance.nextInt(2);
      x.touch(set[4]);
    } else if (how == 16) {
      int colour = chance.nextInt(4);
      set[colour] = chance.nextInt(256);
      x.tone(colour, set[colour]);
    } else if (how == 17) {
      x.makeFew(2);
    } else if (how == 18) {
      x.restore();
      System.arraycopy(new int[] {0, 17, 34, 51, 0}, 0, set, 0, 5);
    } else {
      show(x, chance, 1);
    }
  }

  /** A new object with the same picture and rules. */
  private static DotLines asNew(DotLines x, int[] set) {
    StringBuilder text = new StringBuilder();
    for (int v = 0; v < x.count(1); v++) {
      text.append(v == 0 ? "" : "/");
      for (int u = 0; u < x.count(0); u++) {
        text.append(x.dot(Due.at(u, v)));
      }
    }
    DotLines y = Due.of(text.toString());
    for (int c = 0; c < 4; c++) {
      y.tone(c, set[c]);
    }
    y.touch(set[4]);
    rules(y);
    return y;
  }

  private static ToLongFunction<DotLines> question(Random chance, int faces) {
    int f = chance.nextInt(Math.min(faces, 4));
    int g = chance.nextInt(faces);
    int at = Due.at(chance.nextInt(4), chance.nextInt(4));
    int miss = 50 * chance.nextInt(9);
    int i = chance.nextInt(9);
    switch (chance.nextInt(19)) {
      case 0:
        return x -> x.faceOf(at);
      case 1:
        return x -> x.face(f, i);
      case 2:
        return x -> x.face(f, 9 + i % 3);
      case 3:
        return x -> x.pair(f, g, i % 2);
      case 4:
        return x -> x.step(f, i, i % 4);
      case 5:
        return x -> x.corners(f, miss / 5);
      case 6:
        return x -> x.cornered(f, miss / 5, i);
      case 7:
        return x -> x.inBand(f, i, i + 1 + miss / 100, miss);
      case 8:
        return x -> x.fewest(f, miss, i - 1);
      case 9:
        return x -> x.drawn(f, miss, at);
      case 10:
        return x -> x.differ(f, miss);
      case 11:
        return x -> x.breadth(at, i % 2);
      case 12:
        return x -> x.stroke(f, 1 + i);
      case 13:
        return x -> x.like(f, g);
      case 14:
        return x -> x.leader(g);
      case 15:
        return x -> x.few(1 + i % 4, miss / 50 % 2);
      case 16:
        return x -> x.pen(i % 4, miss / 50 - 1);
      case 17:
        return x -> x.sign(f);
      default:
        return x -> x.count(i == 7 || i == 5 || i == 6 ? 2 : i);
    }
  }

  // ---- two calls between two questions

  private static DotLines made() {
    DotLines x = Due.of("1123/0103/0110/2333");
    x.image();
    x.paint(0, 3);
    x.paint(17, 2);
    x.paint(18, 1);
    x.undo();
    Due.text(x, 1, "110/101/110");
    Due.text(x, 2, "1123/0103/0110/2333");
    return x;
  }

  private static Consumer<DotLines> call(int which) {
    switch (which) {
      case 0:
        return x -> x.undo();
      case 1:
        return x -> x.redo();
      case 2:
        return x -> x.paint(17, 3);
      case 3:
        return x -> x.paint(17, 2);
      case 4:
        return x -> x.clean(1);
      case 5:
        return x -> x.makeFew(1);
      case 6:
        return x -> x.touch(1);
      case 7:
        return x -> x.touch(0);
      case 8:
        return x -> x.picture(1);
      case 9:
        return x -> x.picture(2);
      case 10:
        return x -> x.restore();
      default:
        return x -> x.tone(1, 255);
    }
  }

  private static String questions(DotLines x) {
    StringBuilder all = new StringBuilder();
    for (int what = 0; what < 9; what++) {
      all.append(' ').append(x.count(what));
    }
    for (int at = 0; at < 52; at++) {
      all.append(' ').append(x.faceOf(at)).append(' ').append(x.breadth(at, 0));
    }
    all.append(' ').append(x.few(2, 0)).append(' ').append(x.pen(3, -1));
    // the last question and the first one are of one face
    for (int f = 0; f < Math.min(4, x.count(2)); f++) {
      all.append(" steps ").append(x.face(f, 11)).append(' ').append(x.face(f, 7));
      all.append(' ').append(x.corners(f, 20)).append(' ').append(x.fewest(f, 100, -1));
      all.append(' ').append(x.fewest(f, 100, 1)).append(' ').append(x.differ(f, 100));
      all.append(' ').append(x.leader(f)).append(' ').append(x.step(f, 5, 0));
    }
    all.append(' ').append(x.fewest(0, 100, 1)).append(' ').append(x.face(0, 11));
    return all.toString();
  }
}
