/**
 * The bounds that part 2 of the terms names for RULES, and the promises 27 to 30: every byte in every place of a
 * text, NUMBERS of 1 to 4 digits, ( at most 8 deep, 12 RULES, those that are told.
 */
public final class RuleBoundsTest {
  private static final String FIELDS = "shwtbcdngkxy";
  private static final String DIGITS = "0123456789";

  public static void main(String[] args) {
    everyByteInEveryPlace();
    namesFromAToZ();
    numbersOf1To4Digits();
    noZeroAhead();
    bracketsOneToEightDeep();
    bracketsBesideEachOther();
    textsThatEndTooEarly();
    textsOfAllThatCanBeHeld();
    bytesBelow0();
    twelveRules();
    rulesOfAllThatCanBeHeld();
    toldAndNotTold();
    theFirstThatHolds();
    noRuleThatHolds();
    sumsFromTheLeft();
    fieldsOfLeastAndMost();
    rulesOfLaterPictures();
    Due.end();
  }

  private static int faultOf(String text) {
    DotLines x = new DotLines();
    Due.text(x, 6, text);
    return x.ruleFault(6);
  }

  /** The fault, and that the rule is refused by it, or taken. */
  private static void fault(String text, int want) {
    DotLines x = new DotLines();
    Due.text(x, 6, text);
    Due.is("ruleFault of " + text, x.ruleFault(6), want);
    Due.is("rule " + text, x.rule(6), want == -4 ? 0 : -100 - want);
    Due.is("rules behind " + text, x.count(5), want == -4 ? 1 : 0);
  }

  /** A byte that may not stand behind this text is its fault; one that may, ends a rule, or the text too early. */
  private static void next(String ahead, String allowed, String ends) {
    for (int sign = 0; sign < 256; sign++) {
      DotLines x = new DotLines();
      x.row(6, 0, ahead.length() + 1);
      for (int i = 0; i < ahead.length(); i++) {
        x.put(6, i, ahead.charAt(i));
      }
      x.put(6, ahead.length(), sign);
      int due = allowed.indexOf((char) sign) >= 0 ? ahead.length() + 1 : ahead.length();
      due = ends.indexOf((char) sign) >= 0 ? -4 : due;
      Due.is(ahead + " and the byte " + sign, x.ruleFault(6), due);
    }
  }

  private static void everyByteInEveryPlace() {
    String atoms = FIELDS + DIGITS;
    next("", "ABCDEFGHIJKLMNOPQRSTUVWXYZ", "");
    next("A", ":", "");
    String[] tests = {"A:", "A:!", "A:!!", "A:(", "A:!(", "A:((", "A:s>1&", "A:s>1|", "A:(s>1&", "A:(s>1)|", "A:(((((((("};
    for (String ahead : tests) {
      boolean deepest = ahead.endsWith("((((((((");
      next(ahead, (deepest ? "!" : "!(") + atoms, "");
    }
    next("A:s", "+-<>=", "");
    next("A:s+s", "+-<>=", "");
    next("A:0", "+-<>=", "");
    next("A:7", "+-<>=" + DIGITS, "");
    next("A:70", "+-<>=" + DIGITS, "");
    next("A:700", "+-<>=" + DIGITS, "");
    next("A:7000", "+-<>=", "");
    next("A:!s", "+-<>=", "");
    next("A:(s", "+-<>=", "");
    next("A:s+", atoms, "");
    next("A:s-", atoms, "");
    next("A:(9+", atoms, "");
    String[] comparisons = {"A:s<", "A:s>", "A:s=", "A:1+2="};
    for (String ahead : comparisons) {
      next(ahead, "", atoms);
    }
    next("A:s=1+", "", atoms);
    next("A:s=1-", "", atoms);
    next("A:s=s", "+-&|", "");
    next("A:s=0", "+-&|", "");
    next("A:s=1", "+-&|", DIGITS);
    next("A:s=123", "+-&|", DIGITS);
    next("A:s=1234", "+-&|", "");
    next("A:(s=s", "+-&|", ")");
    next("A:(s=1", "+-&|" + DIGITS, ")");
    next("A:((s=s)", "&|", ")");
    next("A:(s=s)", "&|", "");
    next("A:!(s=s)", "&|", "");
    next("A:s=s&s=s", "+-&|", "");
    next("A:s=s|s=s", "+-&|", "");
  }

  private static void namesFromAToZ() {
    for (char name = 'A'; name <= 'Z'; name++) {
      DotLines x = new DotLines();
      Due.text(x, 0, name + ":s=1");
      Due.is("rule " + name, x.rule(0), 0);
      Due.is("sign " + name, x.sign(0), name);
    }
    fault("@:s=1", 0);
    fault("[:s=1", 0);
    fault("a:s=1", 0);
    fault("z:s=1", 0);
  }

  private static void numbersOf1To4Digits() {
    int[] numbers = {0, 1, 9, 10, 99, 100, 999, 1000, 9998, 9999};
    for (int n : numbers) {
      DotLines x = new DotLines();
      Due.text(x, 0, "A:" + n + "=s+" + Math.max(0, n - 1));
      Due.is("a number " + n, x.rule(0), 0);
      Due.is("is what it says: " + n, x.sign(0), n == 0 ? -4 : 'A');
      Due.text(x, 0, "B:" + n + "-" + n + "=0&!" + n + "<" + n + "&!" + n + ">" + n);
      x.rule(0);
      x.tell(0, false);
      Due.is("and is as great as itself: " + n, x.sign(0), 'B');
    }
    fault("A:10000=s", 6);
    fault("A:99999=s", 6);
    fault("A:s=10000", 8);
    fault("A:s=123456", 8);
    fault("A:s=1234+12345", 13);
    fault("A:s=1234-1234", -4);
  }

  private static void noZeroAhead() {
    fault("A:0=0", -4);
    fault("A:00=0", 3);
    fault("A:0=00", 5);
    fault("A:01=0", 3);
    fault("A:0=09", 5);
    fault("A:s+0=0", -4);
    fault("A:s+00=0", 5);
    fault("A:10=0", -4);
    fault("A:1000=0", -4);
  }

  private static String deep(String open, int deep, int closed) {
    StringBuilder text = new StringBuilder("A:");
    for (int n = 0; n < deep; n++) {
      text.append(open);
    }
    text.append("s=1");
    for (int n = 0; n < closed; n++) {
      text.append(')');
    }
    return text.toString();
  }

  private static void bracketsOneToEightDeep() {
    for (int n = 0; n <= 8; n++) {
      fault(deep("(", n, n), -4);
      fault(deep("!(", n, n), -4);
      fault(deep("(", n, n + 1), 2 + n + 3 + n);
      if (n > 0) {
        fault(deep("(", n, n - 1), 2 + n + 3 + n - 1);
      }
    }
    for (int n = 9; n <= 20; n++) {
      fault(deep("(", n, n), 10);
      fault(deep("!(", n, n), 2 + 2 * 8 + 1);
      fault(deep("!!(", n, n), 2 + 3 * 8 + 2);
    }
    fault("A:((((((((s=1|(s=1", 14);
    fault("A:((((((((s=1&!(s=1", 15);
    fault("A:(((((((s=1&(s=1&(", 18);
  }

  private static void bracketsBesideEachOther() {
    String eight = "((((((((s=1))))))))";
    fault("A:" + eight + "&" + eight + "|" + eight + "&" + eight, -4);
    fault("A:" + eight + "&(" + eight + ")", 31 - 1);
    fault("A:(((((((s=1)&(s=1))))))|(s=2))", -4);
    fault("A:(s=1)&(s=1)&(s=1)&(s=1)&(s=1)&(s=1)&(s=1)&(s=1)&(s=1)&(s=1)", -4);
  }

  private static void textsThatEndTooEarly() {
    String whole = "R:!(s+1<20|h=0)&c-d>9";
    int behindTheBracket = whole.indexOf(')') + 1;
    for (int n = 0; n < whole.length(); n++) {
      fault(whole.substring(0, n), n == behindTheBracket ? -4 : n);
    }
    fault(whole, -4);
  }

  private static String filled(String ahead, String more, int size) {
    StringBuilder text = new StringBuilder(ahead);
    while (text.length() + more.length() <= size) {
      text.append(more);
    }
    return text.toString();
  }

  private static void textsOfAllThatCanBeHeld() {
    String sums = filled("A:s=1", "+0", 119) + "9";
    Due.is("119 and one", sums.length(), 120);
    fault(sums, 119);
    sums = filled("A:s=1", "+0", 117) + "+99";
    Due.is("as many bytes as a row holds", sums.length(), 120);
    fault(sums, -4);
    fault(filled("A:s=1", "+0", 119) + "+", 120);
    fault(filled("A:", "s>0&", 118) + "!", 119);
    fault(filled("A:", "!", 117) + "s=1", -4);
    fault(filled("A:", "!", 119) + "s", 120);
    fault(filled("A:", "!", 120), 120);
    fault(filled("A:", "s=2|", 114) + "s=1", -4);
  }

  private static void bytesBelow0() {
    for (int v = -128; v < 0; v++) {
      DotLines x = new DotLines();
      Due.text(x, 0, "A:s=1 ");
      x.put(0, 5, v);
      Due.is("behind a rule " + v, x.ruleFault(0), 5);
      x.put(0, 0, v);
      Due.is("at first " + v, x.ruleFault(0), 0);
    }
  }

  private static void twelveRules() {
    DotLines x = new DotLines();
    for (int r = 0; r < 12; r++) {
      Due.text(x, 0, (char) ('A' + r) + ":s=1");
      Due.is("rules", x.count(5), r);
      Due.is("rule " + r, x.rule(0), r);
      Due.is("told at once", x.count(6), r + 1);
    }
    Due.is("a thirteenth", x.rule(0), -2);
    Due.is("twelve", x.count(5), 12);
    for (int r = 0; r < 12; r++) {
      Due.is("the first that is told", x.sign(0), 'A' + r);
      Due.is("not told " + r, x.tell(r, false), 1);
    }
    Due.is("none is told", x.sign(0), -4);
    Due.is("the last again", x.tell(11, true), 1);
    Due.is("the last alone", x.sign(0), 'L');
    Due.is("behind the last", x.tell(12, true), -1);
    Due.is("ahead of the first", x.tell(-1, true), -1);
    Due.is("room is for those that are told and for those that are not", x.rule(0), -2);
  }

  private static void rulesOfAllThatCanBeHeld() {
    DotLines x = new DotLines();
    for (int r = 0; r < 12; r++) {
      String text = filled((char) ('M' + r) + ":s=1", "+0", 117) + "+" + (r == 11 ? 0 : 1);
      Due.is("as long as there may be", text.length(), 119);
      Due.text(x, 0, text);
      Due.is("rule " + r, x.rule(0), r);
    }
    x.row(0, 0, 120);
    Due.is("the last alone holds", x.sign(0), 'X');
  }

  private static void toldAndNotTold() {
    DotLines x = new DotLines();
    Due.is("no rule", x.tell(0, false), -1);
    Due.text(x, 0, "A:s=1");
    x.rule(0);
    Due.is("is told", x.tell(0, true), 0);
    Due.is("isn't any more", x.tell(0, false), 1);
    Due.is("isn't still", x.tell(0, false), 0);
    Due.is("is again", x.tell(0, true), 1);
    Due.is("is still", x.tell(0, true), 0);
    Due.is("behind the last", x.tell(1, false), -1);
  }

  private static void theFirstThatHolds() {
    DotLines x = Due.of("0111");
    String[] texts = {"D:s=1", "C:s=3", "B:s>0", "A:s>0"};
    for (String text : texts) {
      Due.text(x, 1, text);
      x.rule(1);
    }
    Due.is("by its number, not by its name", x.sign(0), 'D');
    Due.is("that holds", x.sign(1), 'C');
    x.tell(0, false);
    x.tell(1, false);
    Due.is("that is told", x.sign(0), 'B');
    Due.is("for both", x.sign(1), 'B');
  }

  private static void noRuleThatHolds() {
    DotLines x = Due.of("0111");
    Due.is("no rule at all", x.sign(0), -4);
    Due.text(x, 1, "A:s=2");
    x.rule(1);
    Due.is("none that holds", x.sign(0), -4);
    Due.is("no face", x.sign(2), -1);
    Due.is("below", x.sign(-1), -1);
    Due.is("the last face", x.sign(1), -4);
  }

  private static void holds(DotLines x, int face, String rule, boolean want) {
    x.image();
    Due.text(x, 7, "Q:" + rule);
    Due.is("rule " + rule, x.rule(7), 0);
    Due.is(rule + " of face " + face, x.sign(face), want ? 'Q' : -4);
    x.restore();
  }

  private static void sumsFromTheLeft() {
    DotLines x = new DotLines();
    holds(x, 0, "5-3-1=1", true);
    holds(x, 0, "5-3-1=3", false);
    holds(x, 0, "5-3+1=3", true);
    holds(x, 0, "0-9999-9999-9999<1-9999-9999", true);
    holds(x, 0, "0-1<0", true);
    holds(x, 0, "0-1>0", false);
    holds(x, 0, "0<0", false);
    holds(x, 0, "0>0", false);
    holds(x, 0, "0=0", true);
    String ten = filled("9999", "+9999", 49);
    holds(x, 0, ten + "=" + ten, true);
    holds(x, 0, ten + "+1>" + ten, true);
    holds(x, 0, ten + "<" + ten + "-1", false);
    holds(x, 0, "0-" + filled("9999", "-9999", 89) + "<0-" + filled("9999", "-9999", 14), true);
  }

  private static void fieldsOfLeastAndMost() {
    DotLines x = new DotLines();
    holds(x, 0, "s=1&h=0&w=1&t=1&b=4&c=0&d=0&n=0&g=1&k=1&x=0&y=0", true);
    x = Due.of("f*16/f*16/f*16/f*16/f*16/f*16/f*16/f*16/f*16/f*16/f*16/f*16");
    holds(x, 0, "s=192&h=0&w=16&t=12&b=56&c=15&d=0&n=0&g=12&k=1&x=0&y=0", true);
    x.paint(191, 14);
    holds(x, 1, "s=1&w=1&t=1&c=14&n=1&g=1&k=1&x=15&y=11", true);
    for (int at = 0; at < 192; at++) {
      x.paint(at, (at % 16 + at / 16) % 2);
    }
    holds(x, 191, "k=192&n=2&x=15&y=11", true);
    x = Due.of("f*16/f*16/f*16/f*16/f*16/f*16/f*16/f*16/f*16/f*16/f*16/f*16");
    for (int y = 1; y < 11; y += 2) {
      for (int u = 1; u < 15; u += 2) {
        x.paint(Due.at(u, y), 1);
      }
    }
    holds(x, 0, "h=35&n=35&k=1", true);
    holds(x, 35, "d=1&n=1&k=35", true);
  }

  private static void rulesOfLaterPictures() {
    DotLines x = new DotLines();
    Due.text(x, 1, "A:s=3");
    x.rule(1);
    Due.is("not of this one", x.sign(0), -4);
    Due.show(x, "000");
    Due.is("rules stay when a picture is read", x.sign(0), 'A');
    x.paint(1, 1);
    Due.is("and are of the faces as they are", x.sign(0), -4);
    x.undo();
    Due.is("again", x.sign(0), 'A');
  }
}
