import java.util.function.Consumer;

/** What was found of a picture is never told of another one: two calls that change it come between two questions. */
public final class FoundAnewTest {
  public static void main(String[] args) {
    for (int one = 0; one < 12; one++) {
      for (int other = 0; other < 12; other++) {
        DotLines asked = made();
        questions(asked);
        call(one).accept(asked);
        call(other).accept(asked);
        DotLines notAsked = made();
        call(one).accept(notAsked);
        call(other).accept(notAsked);
        Due.same("calls " + one + ", " + other, questions(asked), questions(notAsked));
        Due.same("asked again " + one + ", " + other, questions(asked), questions(notAsked));
      }
    }
    Due.end();
  }

  private static DotLines made() {
    DotLines x = Due.of("1123/0103/0110/2333");
    x.image();
    x.paint(0, 3);
    x.paint(17, 2);
    x.paint(18, 1);
    x.undo();
    Due.text(x, 1, "110/101/110");
    Due.text(x, 2, "1123/0103/0110/2333");
    return x;
  }

  private static Consumer<DotLines> call(int which) {
    switch (which) {
      case 0:
        return x -> x.undo();
      case 1:
        return x -> x.redo();
      case 2:
        return x -> x.paint(17, 3);
      case 3:
        return x -> x.paint(17, 2);
      case 4:
        return x -> x.clean(1);
      case 5:
        return x -> x.makeFew(1);
      case 6:
        return x -> x.touch(1);
      case 7:
        return x -> x.touch(0);
      case 8:
        return x -> x.picture(1);
      case 9:
        return x -> x.picture(2);
      case 10:
        return x -> x.restore();
      default:
        return x -> x.tone(1, 255);
    }
  }

  private static String questions(DotLines x) {
    StringBuilder all = new StringBuilder();
    for (int what = 0; what < 9; what++) {
      all.append(' ').append(x.count(what));
    }
    for (int at = 0; at < 52; at++) {
      all.append(' ').append(x.faceOf(at)).append(' ').append(x.breadth(at, 0));
    }
    all.append(' ').append(x.few(2, 0)).append(' ').append(x.pen(3, -1));
    // the last question and the first one are of one face
    for (int f = 0; f < Math.min(4, x.count(2)); f++) {
      all.append(" steps ").append(x.face(f, 11)).append(' ').append(x.face(f, 7));
      all.append(' ').append(x.corners(f, 20)).append(' ').append(x.fewest(f, 100, -1));
      all.append(' ').append(x.fewest(f, 100, 1)).append(' ').append(x.differ(f, 100));
      all.append(' ').append(x.leader(f)).append(' ').append(x.step(f, 5, 0));
    }
    all.append(' ').append(x.fewest(0, 100, 1)).append(' ').append(x.face(0, 11));
    return all.toString();
  }
}
