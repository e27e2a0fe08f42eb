/** What the tests share: answers told when they are not due, and texts brought onto shelves. */
final class Due {
  private static int looked = 0;
  private static int wrong = 0;

  static void is(String what, long got, long want) {
    looked++;
    if (got != want) {
      wrong++;
      System.out.println(what + ": answered " + got + ", due is " + want);
    }
  }

  static void same(String what, String got, String want) {
    looked++;
    if (!got.equals(want)) {
      wrong++;
      System.out.println(what + ": is" + got + ", due is" + want);
    }
  }

  static void text(DotLines x, int shelf, String text) {
    is("row for " + text, x.row(shelf, 0, text.length()), 0);
    for (int i = 0; i < text.length(); i++) {
      is("put for " + text, x.put(shelf, i, text.charAt(i)), 0);
    }
  }

  static void show(DotLines x, String picture) {
    text(x, 0, picture);
    is("picture " + picture, x.picture(0) > 0 ? 1 : 0, 1);
  }

  static DotLines of(String picture) {
    DotLines x = new DotLines();
    show(x, picture);
    return x;
  }

  /** 0 nothing, 1 IllegalArgumentException, 2 IllegalStateException. */
  static int thrown(DotLines x, int shelf, int i) {
    try {
      x.element(shelf, i);
      return 0;
    } catch (IllegalArgumentException e) {
      return 1;
    } catch (IllegalStateException e) {
      return 2;
    }
  }

  static int at(int x, int y) {
    return 16 * y + x;
  }

  static void end() {
    System.out.println(looked + " answers looked at, " + wrong + " not as due");
    if (wrong != 0) {
      System.exit(1);
    }
  }
}
