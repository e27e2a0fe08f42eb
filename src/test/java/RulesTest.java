/** Promises 27 to 30: ruleFault, rule, tell, sign. */
public final class RulesTest {
  public static void main(String[] args) {
    faults();
    wrongShelves();
    numbersOfRules();
    telling();
    fields();
    sums();
    tests();
    Due.end();
  }

  private static void fault(String text, int want) {
    DotLines x = new DotLines();
    Due.text(x, 2, text);
    Due.is("ruleFault of " + text, x.ruleFault(2), want);
    Due.is("rule of " + text, x.rule(2), want == -4 ? 0 : -100 - want);
    Due.is("rules after " + text, x.count(5), want == -4 ? 1 : 0);
  }

  private static void faults() {
    fault("A:s>4", -4);
    fault("Z:s<h+w-t=1", 9);
    fault("Z:s<h+w-t", -4);
    fault("M:!!!!s=0", -4);
    fault("M:(s=0)", -4);
    fault("M:!(s=0&!(b=1|c<2))|d>n+g&k=x-y", -4);
    fault("M:9999=0", -4);
    fault("M:0=0", -4);
    fault("", 0);
    fault("a:s>4", 0);
    fault("@:s>4", 0);
    fault("[:s>4", 0);
    fault(":", 0);
    fault("A", 1);
    fault("A;", 1);
    fault("AB:", 1);
    fault("A:", 2);
    fault("A: s>4", 2);
    fault("A:)", 2);
    fault("A:+s>4", 2);
    fault("A:-s>4", 2);
    fault("A:e>4", 2);
    fault("A:S>4", 2);
    fault("A:s", 3);
    fault("A:s4", 3);
    fault("A:s)", 3);
    fault("A:s&", 3);
    fault("A:(s)", 4);
    fault("A:s>", 4);
    fault("A:s>!", 4);
    fault("A:s>(4)", 4);
    fault("A:s>4>3", 5);
    fault("A:s>4)", 5);
    fault("A:s>4 ", 5);
    fault("A:s>4!", 5);
    fault("A:s>4s", 5);
    fault("A:s>=4", 4);
    fault("A:s>04", 5);
    fault("A:s>00", 5);
    fault("A:s>9999", -4);
    fault("A:s>99999", 8);
    fault("A:s>1000-", 9);
    fault("A:s>1++2", 6);
    fault("A:s>1&", 6);
    fault("A:s>1|", 6);
    fault("A:s>1&&", 6);
    fault("A:s>1&|", 6);
    fault("A:!", 3);
    fault("A:!)", 3);
    fault("A:(", 3);
    fault("A:(s>1", 6);
    fault("A:(s>1|", 7);
    fault("A:(s>1))", 7);
    fault("A:(s>1)s", 7);
    fault("A:(s>1)+1", 7);
    fault("A:(s>1)>1", 7);
    fault("A:((((((((s>1))))))))", -4);
    fault("A:(((((((((s>1)))))))))", 10);
    fault("A:!(!(!(!(!(!(!(!(!(s>1)))))))))", 19);
    fault("A:((((((((s>1))))))))&((((((((s>1))))))))", -4);
    StringBuilder deep = new StringBuilder("A:");
    for (int n = 0; n < 115; n++) {
      deep.append('!');
    }
    fault(deep + "s=1", -4);
    fault(deep + "s=", 119);
  }

  private static void wrongShelves() {
    DotLines x = new DotLines();
    Due.is("ruleFault below", x.ruleFault(-1), -1);
    Due.is("ruleFault above", x.ruleFault(8), -1);
    Due.is("ruleFault of nothing", x.ruleFault(0), -11);
    Due.is("rule below", x.rule(-1), -1);
    Due.is("rule above", x.rule(8), -1);
    Due.is("rule of nothing", x.rule(0), -11);
    x.row(0, 1, 4);
    Due.is("ruleFault of shorts", x.ruleFault(0), -12);
    Due.is("rule of shorts", x.rule(0), -12);
    x.keep(0, 1, 0, 0, 0);
    Due.is("ruleFault of a piece", x.ruleFault(0), -12);
    Due.is("rule of a piece", x.rule(0), -12);
    x.row(0, 0, 0);
    Due.is("rule of an empty row", x.rule(0), -100);
  }

  private static void numbersOfRules() {
    DotLines x = new DotLines();
    Due.text(x, 0, "A:s=1");
    for (int r = 0; r < 12; r++) {
      Due.is("number", x.rule(0), r);
    }
    Due.is("a thirteenth", x.rule(0), -2);
    Due.is("no shelf comes first", x.rule(8), -1);
    Due.is("no room comes ahead of nothing", x.rule(1), -2);
    x.row(0, 2, 1);
    Due.is("and of ints", x.rule(0), -2);
    Due.text(x, 0, "!");
    Due.is("and of a fault", x.rule(0), -2);
    Due.is("faults are still told", x.ruleFault(0), 0);
    Due.is("rules", x.count(5), 12);
    // what is put on the shelf later doesn't matter
    Due.is("sign", x.sign(0), 'A');
  }

  private static void telling() {
    DotLines x = new DotLines();
    Due.is("no rule", x.tell(0, true), -1);
    Due.text(x, 0, "A:s=1");
    x.rule(0);
    Due.text(x, 0, "B:s>0");
    x.rule(0);
    Due.is("told already", x.tell(0, true), 0);
    Due.is("the first", x.sign(0), 'A');
    Due.is("both are told", x.count(6), 2);
    Due.is("not any more", x.tell(0, false), 1);
    Due.is("not any more again", x.tell(0, false), 0);
    Due.is("the second", x.sign(0), 'B');
    Due.is("those told", x.count(6), 1);
    Due.is("told again", x.tell(0, true), 1);
    Due.is("the first again", x.sign(0), 'A');
    Due.is("no rule 2", x.tell(2, true), -1);
    Due.is("no rule -1", x.tell(-1, false), -1);
    Due.is("no face", x.sign(1), -1);
    Due.is("below", x.sign(-1), -1);
    x.tell(0, false);
    x.tell(1, false);
    Due.is("none", x.sign(0), -4);
  }

  private static void holds(DotLines x, int face, String rule, boolean want) {
    Due.text(x, 7, "Q:" + rule);
    x.image();
    Due.is("rule " + rule, x.rule(7), 0);
    Due.is(rule + " of face " + face, x.sign(face), want ? 'Q' : -4);
    x.restore();
  }

  private static void fields() {
    // face 1 is a ring of ones with a foot; face 2 the dot in it
    String picture = "0*6/011100/012101/011100/011110/000100";
    String letters = "scxywthndgb";
    int[] whats = {0, 1, 3, 4, 5, 6, 7, 8, 9, 10, 11};
    for (int n = 0; n < letters.length(); n++) {
      DotLines x = Due.of(picture);
      for (int f = 0; f < 3; f++) {
        int value = x.face(f, whats[n]);
        holds(x, f, letters.charAt(n) + "=" + value, true);
        holds(x, f, letters.charAt(n) + "=" + (value + 1), false);
      }
    }
    DotLines x = Due.of("0120/1102/3304");
    int[] like = {5, 1, 5, 5, 2, 5, 2, 5};
    for (int f = 0; f < like.length; f++) {
      holds(x, f, "k=" + like[f], true);
    }
  }

  private static void sums() {
    DotLines x = Due.of("00000");
    holds(x, 0, "s=5", true);
    holds(x, 0, "s<6", true);
    holds(x, 0, "s<5", false);
    holds(x, 0, "s>4", true);
    holds(x, 0, "s>5", false);
    holds(x, 0, "10-3-2=s", true);
    holds(x, 0, "10-3+2=9", true);
    holds(x, 0, "1-2<0", true);
    holds(x, 0, "1-2=0-1", true);
    holds(x, 0, "9999+9999>9999+9998", true);
    holds(x, 0, "s+w+t-b=0-1", true);
  }

  private static void tests() {
    DotLines x = new DotLines();
    holds(x, 0, "1=1|1=1&0=1", true);
    holds(x, 0, "(1=1|1=1)&0=1", false);
    holds(x, 0, "0=1&1=1|1=1", true);
    holds(x, 0, "0=1&(1=1|1=1)", false);
    holds(x, 0, "!0=1&0=1", false);
    holds(x, 0, "!(0=1&0=1)", true);
    holds(x, 0, "!!1=1", true);
    holds(x, 0, "!!!1=1", false);
    holds(x, 0, "0=1|0=1|1=1", true);
    holds(x, 0, "1=1&1=1&0=1", false);
    holds(x, 0, "((1=1)&!(0=1))", true);
  }
}
