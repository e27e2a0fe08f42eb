import java.util.Random;
import java.util.regex.Matcher;
import java.util.regex.Pattern;

/** Texts of pictures and rules made by chance (always the same ones): their faults, and what rules answer. */
public final class TextsTest {
  private static final Random CHANCE = new Random(5);

  public static void main(String[] args) {
    for (int n = 0; n < 6000; n++) {
      pictureText(spoilt(pictureOf(), "0123456789af*/*/g", n % 3));
    }
    DotLines faces = Due.of("0*7/0111110/0101310/0111110/0*5b1/2*7");
    for (int n = 0; n < 6000; n++) {
      ruleText(spoilt("R:" + or(3), "shwtbcdngkxy0123456789!()&|+-<>=:AZ e", n % 3));
    }
    for (int n = 0; n < 1500; n++) {
      holds(faces);
    }
    Due.end();
  }

  private static String spoilt(String text, String signs, int times) {
    StringBuilder some = new StringBuilder(text);
    for (int n = 0; n < times && some.length() > 0; n++) {
      int at = CHANCE.nextInt(some.length());
      char sign = signs.charAt(CHANCE.nextInt(signs.length()));
      int how = CHANCE.nextInt(4);
      if (how == 0) {
        some.deleteCharAt(at);
      } else if (how == 1) {
        some.insert(at, sign);
      } else if (how == 2) {
        some.setCharAt(at, sign);
      } else {
        some.setLength(at);
      }
    }
    return some.length() > 120 ? some.substring(0, 120) : some.toString();
  }

  private static String pictureOf() {
    int wide = CHANCE.nextInt(4) == 0 ? 16 : 1 + CHANCE.nextInt(16);
    int high = CHANCE.nextInt(4) == 0 ? 12 : 1 + CHANCE.nextInt(12);
    StringBuilder text = new StringBuilder();
    for (int y = 0; y < high; y++) {
      text.append(y == 0 ? "" : "/");
      for (int x = 0; x < wide; ) {
        int n = CHANCE.nextInt(3) == 0 ? 1 : 1 + CHANCE.nextInt(wide - x);
        text.append(Character.forDigit(CHANCE.nextInt(2) * 10 + CHANCE.nextInt(6), 16));
        if (n > 1) {
          text.append('*').append(n);
        }
        x += n;
      }
    }
    return text.toString();
  }

  /** By words of the text: a run is a colour, and behind a * a number or what stands there in its place. */
  private static int pictureFault(String text) {
    Pattern run = Pattern.compile("([0-9a-f])(\\*(0|[1-9][0-9]?)?)?");
    int at = 0;
    int lines = 1;
    int first = -1;
    int dots = 0;
    while (true) {
      Matcher m = run.matcher(text).region(at, text.length());
      if (!m.lookingAt()) {
        return at;
      }
      int room = (first < 0 ? 16 : first) - dots;
      if (room < 1) {
        return at;
      }
      if (m.group(2) != null) {
        int n = m.group(3) == null ? 0 : Integer.parseInt(m.group(3));
        if (n == 0 || n > room) {
          return at + 2;
        }
        dots += n;
      } else {
        dots++;
      }
      at = m.end();
      boolean ends = at == text.length();
      if (ends || text.charAt(at) == '/') {
        if (first >= 0 && dots < first) {
          return at;
        }
        if (ends) {
          return -4;
        }
        if (lines == 12) {
          return at;
        }
        first = dots;
        dots = 0;
        lines++;
        at++;
      }
    }
  }

  private static void pictureText(String text) {
    DotLines x = new DotLines();
    Due.text(x, 0, text);
    Due.is("fault of " + text, x.fault(0), pictureFault(text));
  }

  private static String atom() {
    if (CHANCE.nextBoolean()) {
      return "" + "shwtbcdngkxy".charAt(CHANCE.nextInt(12));
    }
    return "" + CHANCE.nextInt(CHANCE.nextInt(3) == 0 ? 10000 : 12);
  }

  private static String sum() {
    StringBuilder text = new StringBuilder(atom());
    while (CHANCE.nextInt(4) == 0) {
      text.append(CHANCE.nextBoolean() ? '+' : '-').append(atom());
    }
    return text.toString();
  }

  private static String test(int deep) {
    int how = CHANCE.nextInt(5);
    if (how == 0) {
      return "!" + test(deep);
    }
    if (how == 1 && deep > 0) {
      return "(" + or(deep - 1) + ")";
    }
    return sum() + "<>=".charAt(CHANCE.nextInt(3)) + sum();
  }

  private static String and(int deep) {
    return CHANCE.nextInt(3) == 0 ? test(deep) + "&" + and(deep) : test(deep);
  }

  private static String or(int deep) {
    return CHANCE.nextInt(3) == 0 ? and(deep) + "|" + or(deep) : and(deep);
  }

  /** Sign by sign, by what may stand next alone. */
  private static int ruleFault(String text) {
    String fields = "shwtbcdngkxy";
    String wants = "name";
    int digits = 0;
    int sums = 0;
    int open = 0;
    for (int at = 0; at < text.length(); at++) {
      char s = text.charAt(at);
      boolean atomBegins = fields.indexOf(s) >= 0 || (s >= '0' && s <= '9');
      if (wants.equals("name")) {
        if (s < 'A' || s > 'Z') {
          return at;
        }
        wants = "colon";
      } else if (wants.equals("colon")) {
        if (s != ':') {
          return at;
        }
        wants = "test";
      } else if (wants.equals("test") && s == '!') {
        wants = "test";
      } else if (wants.equals("test") && s == '(' && open < 8) {
        open++;
      } else if (wants.equals("test") || wants.equals("atom")) {
        if (!atomBegins) {
          return at;
        }
        sums = wants.equals("test") ? 1 : sums;
        digits = fields.indexOf(s) >= 0 || s == '0' ? 4 : 1;
        wants = "on";
      } else if (s >= '0' && s <= '9' && digits < 4) {
        digits++;
      } else if ((s == '+' || s == '-') && sums > 0) {
        wants = "atom";
      } else if ((s == '<' || s == '>' || s == '=') && sums == 1) {
        sums = 2;
        wants = "atom";
      } else if ((s == '&' || s == '|') && sums != 1) {
        wants = "test";
      } else if (s == ')' && sums != 1 && open > 0) {
        open--;
        sums = 0;
        digits = 4;
      } else {
        return at;
      }
    }
    return wants.equals("on") && sums != 1 && open == 0 ? -4 : text.length();
  }

  private static void ruleText(String text) {
    DotLines x = new DotLines();
    Due.text(x, 0, text);
    Due.is("ruleFault of " + text, x.ruleFault(0), ruleFault(text));
  }

  private static void holds(DotLines x) {
    String text = or(3);
    if (text.length() > 110) {
      return;
    }
    Due.text(x, 1, "R:" + text);
    x.image();
    Due.is("rule " + text, x.rule(1), 0);
    for (int f = 0; f < x.count(2); f++) {
      Due.is(text + " of " + f, x.sign(f), value(x, f, text) ? 'R' : -4);
    }
    x.restore();
  }

  /** From the outside in: split at the | that stand in no brackets, then at the &. */
  private static boolean value(DotLines x, int f, String text) {
    int at = outside(text, '|');
    if (at >= 0) {
      return value(x, f, text.substring(0, at)) | value(x, f, text.substring(at + 1));
    }
    at = outside(text, '&');
    if (at >= 0) {
      return value(x, f, text.substring(0, at)) & value(x, f, text.substring(at + 1));
    }
    if (text.charAt(0) == '!') {
      return !value(x, f, text.substring(1));
    }
    if (text.charAt(0) == '(') {
      return value(x, f, text.substring(1, text.length() - 1));
    }
    String[] two = text.split("[<>=]");
    int one = total(x, f, two[0]);
    int other = total(x, f, two[1]);
    char how = text.charAt(two[0].length());
    return how == '<' ? one < other : how == '>' ? one > other : one == other;
  }

  private static int outside(String text, char sign) {
    int open = 0;
    for (int at = 0; at < text.length(); at++) {
      char s = text.charAt(at);
      open += s == '(' ? 1 : s == ')' ? -1 : 0;
      if (open == 0 && s == sign) {
        return at;
      }
    }
    return -1;
  }

  private static int total(DotLines x, int f, String text) {
    int total = 0;
    Matcher m = Pattern.compile("([+-]?)([a-z]|[0-9]+)").matcher(text);
    while (m.find()) {
      String atom = m.group(2);
      int what = "sc-xywthndgb".indexOf(atom);
      int v;
      if (atom.equals("k")) {
        v = 0;
        for (int g = 0; g < x.count(2); g++) {
          v += x.like(f, g);
        }
      } else {
        v = Character.isDigit(atom.charAt(0)) ? Integer.parseInt(atom) : x.face(f, what);
      }
      total += m.group(1).equals("-") ? -v : v;
    }
    return total;
  }
}
