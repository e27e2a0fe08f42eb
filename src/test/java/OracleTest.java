import java.util.ArrayList;
import java.util.Arrays;
import java.util.Collections;
import java.util.HashSet;
import java.util.List;
import java.util.Random;
import java.util.Set;
import java.util.TreeSet;

/**
 * Every answer about pictures drawn by chance (always the same ones) against what the document's
 * words give when they are followed the long way: nothing here is shared with the class.
 */
public final class OracleTest {
  private static final int OUT = -1;

  private final Random chance;
  private final int wide;
  private final int high;
  private final int touch;
  private final int[][] colour;
  private final int[][] face;
  private final int[] tone = new int[16];
  private final List<List<int[]>> dots = new ArrayList<>();
  private final DotLines x = new DotLines();
  private final String name;
  private final int longest;

  private OracleTest(int seed) {
    chance = new Random(seed);
    name = "seed " + seed + ": ";
    longest = seed % 10 == 0 ? 412 : 90;
    wide = seed % 5 == 0 ? 16 : 1 + chance.nextInt(16);
    high = seed % 5 == 0 ? 12 : 1 + chance.nextInt(12);
    touch = chance.nextInt(2);
    colour = new int[high][wide];
    face = new int[high][wide];
    int colours = 1 + chance.nextInt(seed % 7 == 0 ? 16 : 4);
    int calm = chance.nextInt(5);
    for (int v = 0; v < high; v++) {
      for (int u = 0; u < wide; u++) {
        colour[v][u] = chance.nextInt(colours);
        if (calm > chance.nextInt(5) && u > 0) {
          colour[v][u] = colour[v][u - 1];
        } else if (calm > chance.nextInt(5) && v > 0) {
          colour[v][u] = colour[v - 1][u];
        }
      }
    }
    for (int c = 0; c < 16; c++) {
      tone[c] = seed % 3 == 0 ? 10 * chance.nextInt(4) : chance.nextInt(256);
    }
  }

  public static void main(String[] args) {
    for (int seed = 1; seed <= 240; seed++) {
      OracleTest test = new OracleTest(seed);
      test.read();
      test.findFaces();
      test.faces();
      test.borders();
      test.shapes();
      test.colours();
      test.pens();
      test.cleaning(1 + seed % 20);
    }
    Due.end();
  }

  private void is(String what, long got, long want) {
    Due.is(name + what, got, want);
  }

  private void read() {
    boolean runs = chance.nextBoolean();
    StringBuilder text = new StringBuilder();
    for (int v = 0; v < high; v++) {
      text.append(v == 0 ? "" : "/");
      for (int u = 0; u < wide; ) {
        int n = 1;
        while (runs && u + n < wide && colour[v][u + n] == colour[v][u]) {
          n++;
        }
        text.append(Character.forDigit(colour[v][u], 16));
        // behind a number of one digit no colour may stand that is a digit: it would be of the number
        boolean apart = n >= 10 || u + n >= wide || colour[v][u + n] >= 10;
        if (apart && (n > 2 || (n == 2 && chance.nextBoolean()))) {
          text.append('*').append(n);
        } else {
          n = 1;
        }
        u += n;
      }
    }
    if (text.length() <= 120) {
      Due.show(x, text.toString());
    } else {
      // too long for a row: its lines painted
      StringBuilder blank = new StringBuilder("0*" + wide);
      for (int v = 1; v < high; v++) {
        blank.append("/0*").append(wide);
      }
      Due.show(x, blank.toString());
    }
    for (int v = 0; v < high; v++) {
      for (int u = 0; u < wide; u++) {
        if (text.length() > 120) {
          x.paint(Due.at(u, v), colour[v][u]);
        }
        is("dot", x.dot(Due.at(u, v)), colour[v][u]);
      }
    }
    x.touch(touch);
    for (int c = 0; c < 16; c++) {
      x.tone(c, tone[c]);
    }
  }

  private int colourAt(int u, int v) {
    return u >= 0 && u < wide && v >= 0 && v < high ? colour[v][u] : OUT;
  }

  private int faceAt(int u, int v) {
    return u >= 0 && u < wide && v >= 0 && v < high ? face[v][u] : OUT;
  }

  private static boolean together(int[] a, int[] b, boolean corners) {
    int far = Math.abs(a[0] - b[0]) + Math.abs(a[1] - b[1]);
    boolean corner = Math.abs(a[0] - b[0]) == 1 && Math.abs(a[1] - b[1]) == 1;
    return far == 1 || (corners && corner);
  }

  /** Parts of a set of dots, each in the order of its first dot. */
  private static List<List<int[]>> parts(List<int[]> all, boolean corners) {
    List<List<int[]>> found = new ArrayList<>();
    Set<int[]> left = new HashSet<>(all);
    for (int[] start : all) {
      if (left.remove(start)) {
        List<int[]> part = new ArrayList<>();
        part.add(start);
        for (int n = 0; n < part.size(); n++) {
          for (int[] other : all) {
            if (left.contains(other) && together(part.get(n), other, corners)) {
              left.remove(other);
              part.add(other);
            }
          }
        }
        found.add(part);
      }
    }
    return found;
  }

  private void findFaces() {
    List<List<int[]>> all = new ArrayList<>();
    for (int c = 0; c < 16; c++) {
      List<int[]> same = new ArrayList<>();
      for (int v = 0; v < high; v++) {
        for (int u = 0; u < wide; u++) {
          if (colour[v][u] == c) {
            same.add(new int[] {u, v});
          }
        }
      }
      all.addAll(parts(same, touch == 1));
    }
    all.sort((a, b) -> Integer.compare(Due.at(a.get(0)[0], a.get(0)[1]), Due.at(b.get(0)[0], b.get(0)[1])));
    for (int f = 0; f < all.size(); f++) {
      List<int[]> mine = all.get(f);
      dots.add(mine);
      for (int[] d : mine) {
        face[d[1]][d[0]] = f;
      }
    }
    is("faces", x.count(2), dots.size());
    is("wide", x.count(0), wide);
    is("high", x.count(1), high);
  }

  private int least(int f, int axis) {
    return dots.get(f).stream().mapToInt(d -> d[axis]).min().orElse(-1);
  }

  private int most(int f, int axis) {
    return dots.get(f).stream().mapToInt(d -> d[axis]).max().orElse(-1);
  }

  private List<List<int[]>> holes(int f) {
    List<int[]> rest = new ArrayList<>();
    for (int v = -1; v <= high; v++) {
      for (int u = -1; u <= wide; u++) {
        if (faceAt(u, v) != f) {
          rest.add(new int[] {u, v});
        }
      }
    }
    List<List<int[]>> found = parts(rest, touch == 0);
    found.remove(0);
    return found;
  }

  private static boolean has(List<int[]> some, int[] dot) {
    for (int[] d : some) {
      if (d[0] == dot[0] && d[1] == dot[1]) {
        return true;
      }
    }
    return false;
  }

  private Set<Integer> beside(int f) {
    Set<Integer> others = new TreeSet<>();
    for (int[] d : dots.get(f)) {
      int[][] four = {{1, 0}, {-1, 0}, {0, 1}, {0, -1}};
      for (int[] way : four) {
        int g = faceAt(d[0] + way[0], d[1] + way[1]);
        if (g != OUT && g != f) {
          others.add(g);
        }
      }
    }
    return others;
  }

  private void faces() {
    int n = Math.min(dots.size(), 14);
    List<List<List<int[]>>> holes = new ArrayList<>();
    for (int f = 0; f < dots.size(); f++) {
      holes.add(holes(f));
    }
    for (int v = 0; v < high; v++) {
      for (int u = 0; u < wide; u++) {
        is("faceOf", x.faceOf(Due.at(u, v)), face[v][u]);
      }
    }
    for (int f = 0; f < n; f++) {
      int[] first = dots.get(f).get(0);
      is("size", x.face(f, 0), dots.get(f).size());
      is("colour", x.face(f, 1), colour[first[1]][first[0]]);
      is("first", x.face(f, 2), Due.at(first[0], first[1]));
      is("least x", x.face(f, 3), least(f, 0));
      is("least y", x.face(f, 4), least(f, 1));
      is("wide", x.face(f, 5), most(f, 0) - least(f, 0) + 1);
      is("high", x.face(f, 6), most(f, 1) - least(f, 1) + 1);
      is("holes", x.face(f, 7), holes.get(f).size());
      is("neighbours", x.face(f, 8), beside(f).size());
      int depth = 0;
      for (int g = 0; g < dots.size(); g++) {
        if (g != f) {
          boolean in = false;
          for (List<int[]> hole : holes.get(g)) {
            boolean all = true;
            for (int[] d : dots.get(f)) {
              all = all && has(hole, d);
            }
            in = in || all;
          }
          depth += in ? 1 : 0;
          if (g < n) {
            is("beside", x.pair(f, g, 0), beside(f).contains(g) ? 1 : 0);
            is("in", x.pair(f, g, 1), in ? 1 : 0);
          }
        }
      }
      is("depth", x.face(f, 9), depth);
    }
    int sides = 0;
    Set<Integer> occurring = new HashSet<>();
    for (int v = 0; v < high; v++) {
      for (int u = 0; u < wide; u++) {
        occurring.add(colour[v][u]);
        sides += u + 1 < wide && colour[v][u] != colour[v][u + 1] ? 1 : 0;
        sides += v + 1 < high && colour[v][u] != colour[v + 1][u] ? 1 : 0;
      }
    }
    is("colours", x.count(3), occurring.size());
    is("sides", x.count(8), sides);
  }

  /** Steps as x, y, way, found by linking all sides of the face, each with the face on its right. */
  private List<int[]> border(int f) {
    List<int[]> sides = new ArrayList<>();
    for (int[] d : dots.get(f)) {
      int u = d[0];
      int v = d[1];
      if (faceAt(u, v - 1) != f) {
        sides.add(new int[] {u, v, 0, u + 1, v});
      }
      if (faceAt(u + 1, v) != f) {
        sides.add(new int[] {u + 1, v, 1, u + 1, v + 1});
      }
      if (faceAt(u, v + 1) != f) {
        sides.add(new int[] {u + 1, v + 1, 2, u, v + 1});
      }
      if (faceAt(u - 1, v) != f) {
        sides.add(new int[] {u, v + 1, 3, u, v});
      }
    }
    int[] first = dots.get(f).get(0);
    List<int[]> row = new ArrayList<>();
    int[] now = null;
    for (int[] side : sides) {
      if (side[0] == first[0] && side[1] == first[1] && side[2] == 0) {
        now = side;
      }
    }
    do {
      row.add(now);
      List<int[]> on = new ArrayList<>();
      for (int[] side : sides) {
        if (side[0] == now[3] && side[1] == now[4]) {
          on.add(side);
        }
      }
      int[] next = on.get(0);
      for (int[] side : on) {
        int wanted = touch == 0 ? (now[2] + 1) % 4 : (now[2] + 3) % 4;
        if (on.size() == 2 && side[2] == wanted) {
          next = side;
        }
      }
      now = next;
    } while (now != row.get(0));
    return row;
  }

  private void borders() {
    int n = dots.size();
    for (int tries = 0; tries < 3; tries++) {
      int f = tries == 0 ? largest() : chance.nextInt(n);
      List<int[]> row = border(f);
      int steps = row.size();
      is("steps", x.face(f, 11), steps);
      int[] turns = new int[steps];
      for (int i = 0; i < steps; i++) {
        int turned = (row.get(i)[2] - row.get((i + steps - 1) % steps)[2] + 4) % 4;
        turns[i] = turned == 0 ? 0 : turned == 1 ? 1 : -1;
        if (steps < 40) {
          is("way", x.step(f, i, 0), row.get(i)[2]);
          is("x", x.step(f, i, 1), row.get(i)[0]);
          is("y", x.step(f, i, 2), row.get(i)[1]);
          is("turn", x.step(f, i, 3), turns[i] + 1);
        }
      }
      is("no more steps", x.step(f, steps, 0), -1);
      corners(f, turns, chance.nextInt(4) == 0 ? chance.nextInt(100) : chance.nextInt(40));
      straights(f, row, chance.nextInt(3) == 0 ? 100 * chance.nextInt(5) : chance.nextInt(401));
    }
  }

  private int largest() {
    int best = 0;
    for (int f = 0; f < dots.size(); f++) {
      best = dots.get(f).size() > dots.get(best).size() ? f : best;
    }
    return best;
  }

  private void corners(int f, int[] turns, int cost) {
    List<Integer> points = new ArrayList<>();
    for (int i = 0; i < turns.length; i++) {
      if (turns[i] != 0) {
        points.add(i);
      }
    }
    int m = points.size();
    if (m > 16) {
      int told = 0;
      for (int t = 0; t < m; t++) {
        int next = (t + 1) % m;
        boolean mine = x.cornered(f, cost, points.get(t)) == 1;
        boolean other = x.cornered(f, cost, points.get(next)) == 1;
        is("two corners next to each other", mine && other ? 1 : 0, 0);
        told += mine ? cost : 10;
        told += !mine && !other && turns[points.get(t)] == turns[points.get(next)] ? 15 : 0;
      }
      is("what the row costs", x.corners(f, cost), told);
      return;
    }
    int least = Integer.MAX_VALUE;
    int best = 0;
    for (int word = 0; word < 1 << m; word++) {
      int sum = 0;
      boolean may = true;
      for (int t = 0; t < m; t++) {
        int next = (t + 1) % m;
        boolean mine = (word >> m - 1 - t & 1) == 1;
        boolean other = (word >> m - 1 - next & 1) == 1;
        may = may && !(mine && other);
        sum += mine ? cost : 10;
        sum += !mine && !other && turns[points.get(t)] == turns[points.get(next)] ? 15 : 0;
      }
      if (may && sum < least) {
        least = sum;
        best = word;
      }
    }
    is("corners", x.corners(f, cost), least);
    for (int t = 0; t < m; t++) {
      is("cornered", x.cornered(f, cost, points.get(t)), best >> m - 1 - t & 1);
    }
  }

  private static boolean near(int[] a, int[] b, int[] p, int miss) {
    long dx = b[0] - a[0];
    long dy = b[1] - a[1];
    long px = p[0] - a[0];
    long py = p[1] - a[1];
    if (dx == 0 && dy == 0) {
      return 10000 * (px * px + py * py) <= (long) miss * miss;
    }
    // the foot of p on the line, all times the square of its length
    long square = dx * dx + dy * dy;
    long along = px * dx + py * dy;
    long fx = square * px - along * dx;
    long fy = square * py - along * dy;
    return 10000 * (fx * fx + fy * fy) <= (long) miss * miss * square * square;
  }

  private void straights(int f, List<int[]> row, int miss) {
    int n = row.size();
    if (n > longest) {
      return;
    }
    boolean[][] band = new boolean[n + 1][n + 1];
    for (int i = 0; i < n; i++) {
      for (int j = i + 1; j <= n; j++) {
        band[i][j] = true;
        for (int k = i + 1; k < j; k++) {
          band[i][j] = band[i][j] && near(row.get(i), row.get(j % n), row.get(k), miss);
        }
      }
    }
    for (int tries = 0; tries < 12; tries++) {
      int i = chance.nextInt(n);
      int j = i + 1 + chance.nextInt(n - i);
      is("inBand " + i + ", " + j, x.inBand(f, i, j, miss), band[i][j] ? 1 : 0);
    }
    // reach[k][i]: from i to the end in just k pieces
    boolean[][] reach = new boolean[n + 1][n + 1];
    reach[0][n] = true;
    int k = 0;
    while (k < 3 || !reach[k][0]) {
      k++;
      for (int i = 0; i < n; i++) {
        for (int j = i + 1; j <= n; j++) {
          reach[k][i] = reach[k][i] || (band[i][j] && reach[k - 1][j]);
        }
      }
    }
    is("fewest with " + miss, x.fewest(f, miss, -1), k);
    List<int[]> ends = new ArrayList<>();
    int point = 0;
    for (int piece = 0; piece < k; piece++) {
      is("piece " + piece + " with " + miss, x.fewest(f, miss, piece), point);
      ends.add(row.get(point));
      int next = n;
      while (!(band[point][next] && reach[k - piece - 1][next])) {
        next--;
      }
      point = next;
    }
    is("no more pieces", x.fewest(f, miss, k), -4);
    polygon(f, ends, miss);
  }

  private void polygon(int f, List<int[]> ends, int miss) {
    List<List<int[]>> holes = holes(f);
    int differ = 0;
    for (int v = 0; v < high; v++) {
      for (int u = 0; u < wide; u++) {
        int crossed = 0;
        for (int n = 0; n < ends.size(); n++) {
          int[] a = ends.get(n);
          int[] b = ends.get((n + 1) % ends.size());
          int[] upper = a[1] < b[1] ? a : b;
          int[] lower = a[1] < b[1] ? b : a;
          if (upper[1] < lower[1] && upper[1] <= v && lower[1] >= v + 1) {
            // x where it crosses, times twice the height, and twice that of the middle
            long height = lower[1] - upper[1];
            long cross = 2L * upper[0] * height + (long) (lower[0] - upper[0]) * (2 * v + 1 - 2 * upper[1]);
            crossed += cross > (2L * u + 1) * height ? 1 : 0;
          }
        }
        boolean drawn = crossed % 2 == 1;
        boolean filled = face[v][u] == f;
        for (List<int[]> hole : holes) {
          filled = filled || has(hole, new int[] {u, v});
        }
        differ += drawn != filled ? 1 : 0;
        is("drawn", x.drawn(f, miss, Due.at(u, v)), drawn ? 1 : 0);
      }
    }
    is("differ", x.differ(f, miss), differ);
  }

  private boolean square(int f, int u, int v, int k) {
    for (int b = v; b < v + k; b++) {
      for (int a = u; a < u + k; a++) {
        if (faceAt(a, b) != f) {
          return false;
        }
      }
    }
    return true;
  }

  private int breadth(int u, int v) {
    int best = 0;
    for (int k = 1; k <= 12; k++) {
      for (int a = u - k + 1; a <= u; a++) {
        for (int b = v - k + 1; b <= v; b++) {
          best = square(face[v][u], a, b, k) ? k : best;
        }
      }
    }
    return best;
  }

  private int room(int u, int v) {
    int r = 0;
    while (square(face[v][u], u - r - 1, v - r - 1, 2 * r + 3)) {
      r++;
    }
    return r;
  }

  private void shapes() {
    int[] greatest = new int[dots.size()];
    for (int v = 0; v < high; v++) {
      for (int u = 0; u < wide; u++) {
        int f = face[v][u];
        int breadth = breadth(u, v);
        greatest[f] = Math.max(greatest[f], breadth);
        boolean middle = true;
        int[][] four = {{1, 0}, {-1, 0}, {0, 1}, {0, -1}};
        for (int[] way : four) {
          if (faceAt(u + way[0], v + way[1]) == f && room(u + way[0], v + way[1]) > room(u, v)) {
            middle = false;
          }
        }
        is("breadth", x.breadth(Due.at(u, v), 0), breadth);
        is("middle", x.breadth(Due.at(u, v), 1), middle ? 1 : 0);
      }
    }
    List<String> forms = new ArrayList<>();
    for (int f = 0; f < dots.size(); f++) {
      forms.add(form(f));
    }
    int n = Math.min(dots.size(), 12);
    for (int f = 0; f < dots.size(); f++) {
      is("leader", x.leader(f), forms.indexOf(forms.get(f)));
    }
    for (int f = 0; f < n; f++) {
      is("greatest", x.face(f, 10), greatest[f]);
      int w = most(f, 0) - least(f, 0) + 1;
      int h = most(f, 1) - least(f, 1) + 1;
      int k = 1 + chance.nextInt(4);
      boolean stroke = greatest[f] <= k && (w > 2 * greatest[f] || h > 2 * greatest[f]);
      is("stroke", x.stroke(f, k), stroke ? 1 : 0);
      for (int g = 0; g < n; g++) {
        is("like", x.like(f, g), forms.get(f).equals(forms.get(g)) ? 1 : 0);
        is("butFor", x.butFor(f, g), butFor(f, g));
      }
      Due.text(x, 5, "K:k=" + Collections.frequency(forms, forms.get(f)));
      x.image();
      x.rule(5);
      is("how many are like", x.sign(f), 'K');
      x.restore();
    }
    is("dictionary", x.count(4), new HashSet<>(forms).size());
  }

  private int butFor(int f, int g) {
    int w = most(f, 0) - least(f, 0);
    int h = most(f, 1) - least(f, 1);
    if (w != most(g, 0) - least(g, 0) || h != most(g, 1) - least(g, 1)) {
      return -4;
    }
    int unlike = 0;
    for (int v = 0; v <= h; v++) {
      for (int u = 0; u <= w; u++) {
        boolean one = faceAt(least(f, 0) + u, least(f, 1) + v) == f;
        boolean other = faceAt(least(g, 0) + u, least(g, 1) + v) == g;
        unlike += one != other ? 1 : 0;
      }
    }
    return unlike;
  }

  /** The least of a face's eight pictures, each moved to 0, 0. */
  private String form(int f) {
    String best = null;
    for (int turn = 0; turn < 8; turn++) {
      List<int[]> moved = new ArrayList<>();
      int lowX = 99;
      int lowY = 99;
      for (int[] d : dots.get(f)) {
        int u = turn >= 4 ? -d[0] : d[0];
        int v = d[1];
        for (int q = 0; q < turn % 4; q++) {
          int t = u;
          u = -v;
          v = t;
        }
        moved.add(new int[] {u, v});
        lowX = Math.min(lowX, u);
        lowY = Math.min(lowY, v);
      }
      List<String> words = new ArrayList<>();
      for (int[] d : moved) {
        words.add((100 + d[0] - lowX) + "," + (100 + d[1] - lowY));
      }
      Collections.sort(words);
      String whole = words.toString();
      best = best == null || whole.compareTo(best) < 0 ? whole : best;
    }
    return best;
  }

  private void colours() {
    int occurring = 0;
    int[] amount = new int[16];
    for (int[] line : colour) {
      for (int c : line) {
        amount[c]++;
        occurring |= 1 << c;
      }
    }
    for (int k = 1; k <= 4; k++) {
      if (Integer.bitCount(occurring) > 8) {
        is("few of too many", x.few(k, 0), -3);
        is("makeFew of too many", x.makeFew(k), -3);
        continue;
      }
      long least = Long.MAX_VALUE;
      int set = 0;
      for (int mask = 1; mask < 1 << 16; mask++) {
        if ((mask & ~occurring) == 0 && Integer.bitCount(mask) <= k) {
          long sum = 0;
          for (int c = 0; c < 16; c++) {
            long far = Long.MAX_VALUE;
            for (int kept = 0; kept < 16; kept++) {
              if ((mask >> kept & 1) == 1) {
                far = Math.min(far, (long) (tone[c] - tone[kept]) * (tone[c] - tone[kept]));
              }
            }
            sum += amount[c] * far;
          }
          if (sum < least) {
            least = sum;
            set = mask;
          }
        }
      }
      is("few", x.few(k, 0), least);
      is("the set", x.few(k, 1), set);
      made(k, set);
    }
  }

  private void made(int k, int set) {
    int changes = x.count(7);
    int[] to = new int[16];
    for (int c = 0; c < 16; c++) {
      int far = Integer.MAX_VALUE;
      for (int kept = 0; kept < 16; kept++) {
        if ((set >> kept & 1) == 1 && Math.abs(tone[c] - tone[kept]) < far) {
          far = Math.abs(tone[c] - tone[kept]);
          to[c] = kept;
        }
      }
    }
    int changed = 0;
    for (int[] line : colour) {
      for (int c : line) {
        changed += to[c] != c ? 1 : 0;
      }
    }
    is("makeFew", x.makeFew(k), changed);
    for (int v = 0; v < high; v++) {
      for (int u = 0; u < wide; u++) {
        is("made", x.dot(Due.at(u, v)), to[colour[v][u]]);
      }
    }
    is("a change or none", x.count(7), changed > 0 ? Math.min(20, changes + 1) : changes);
    if (changed > 0) {
      is("undone", x.undo(), changed);
    }
  }

  private void pens() {
    for (int c = 0; c < 4; c++) {
      List<Integer> mine = new ArrayList<>();
      for (int f = 0; f < dots.size(); f++) {
        int[] first = dots.get(f).get(0);
        if (colour[first[1]][first[0]] == c) {
          mine.add(f);
        }
      }
      if (mine.isEmpty() || mine.size() > 7) {
        is("pen", x.pen(c, -1), mine.isEmpty() ? -4 : -3);
        continue;
      }
      best = Integer.MAX_VALUE;
      bestOrder = null;
      orders(new ArrayList<>(), mine, 0, 0, 0);
      is("pen", x.pen(c, -1), best);
      for (int i = 0; i < 7; i++) {
        is("pen's " + i, x.pen(c, i), i < mine.size() ? bestOrder.get(i) : -4);
      }
    }
  }

  private int best;
  private List<Integer> bestOrder;

  private void orders(List<Integer> so, List<Integer> all, int u, int v, int way) {
    if (so.size() == all.size()) {
      if (way < best) {
        best = way;
        bestOrder = new ArrayList<>(so);
      }
      return;
    }
    for (int f : all) {
      if (!so.contains(f)) {
        int[] first = dots.get(f).get(0);
        so.add(f);
        orders(so, all, first[0], first[1], way + Math.abs(first[0] - u) + Math.abs(first[1] - v));
        so.remove(so.size() - 1);
      }
    }
  }

  private void cleaning(int n) {
    int[][] after = new int[high][];
    for (int v = 0; v < high; v++) {
      after[v] = Arrays.copyOf(colour[v], wide);
    }
    int changed = 0;
    for (int f = 0; f < dots.size(); f++) {
      if (dots.get(f).size() <= n) {
        int[] sides = new int[16];
        for (int[] d : dots.get(f)) {
          int[][] four = {{1, 0}, {-1, 0}, {0, 1}, {0, -1}};
          for (int[] way : four) {
            int g = faceAt(d[0] + way[0], d[1] + way[1]);
            if (g != OUT && g != f) {
              sides[colourAt(d[0] + way[0], d[1] + way[1])]++;
            }
          }
        }
        int to = -1;
        for (int c = 15; c >= 0; c--) {
          to = sides[c] > 0 && (to < 0 || sides[c] >= sides[to]) ? c : to;
        }
        for (int[] d : dots.get(f)) {
          after[d[1]][d[0]] = to < 0 ? after[d[1]][d[0]] : to;
          changed += to < 0 ? 0 : 1;
        }
      }
    }
    is("clean", x.clean(n), changed);
    for (int v = 0; v < high; v++) {
      for (int u = 0; u < wide; u++) {
        is("cleaned", x.dot(Due.at(u, v)), after[v][u]);
      }
    }
    if (changed > 0) {
      is("undone", x.undo(), changed);
      is("done again", x.redo(), changed);
      x.undo();
    }
    for (int v = 0; v < high; v++) {
      for (int u = 0; u < wide; u++) {
        is("as ahead", x.dot(Due.at(u, v)), colour[v][u]);
      }
    }
  }
}
