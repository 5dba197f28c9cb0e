import java.lang.reflect.Array;
import java.util.ArrayList;
import java.util.List;

/**
 * Runs of calls on DepotTrays and on a depot of real Java classes and arrays. The document's
 * failures are what the Java machine would throw, so here, in a test, the machine is the judge.
 */
public final class JavaArraysTest {
  private static final int RUNS = 3000, CALLS = 512;

  interface Frail {
  }

  static class Piece {
    int own;

    long worth() {
      return own;
    }
  }

  static class Vase extends Piece implements Frail {
    @Override long worth() {
      return 2L * own;
    }
  }

  static class Coin extends Piece {
  }

  static final class Crown extends Coin implements Frail {
    @Override long worth() {
      return own + 100L;
    }
  }

  private static final Class<?>[] BASES = {
    Piece.class, Vase.class, Coin.class, Crown.class, Frail.class, int.class, long.class,
  };

  /** Answers a call; may throw what the machine throws. */
  interface Call {
    long answer();
  }

  /** The depot of real arrays. */
  static final class Model {
    final List<Object> things = new ArrayList<>();
    final List<int[]> kinds = new ArrayList<>();
    final Class<?>[] doors = new Class<?>[8];
    int failures = 0, latest = 0, lastDoor = -1;

    Model() {
      openDoors();
    }

    void openDoors() {
      for (int k = 0; k < 8; k++) doors[k] = Piece.class;
    }

    static Class<?> kind(int base, int depth) {
      Class<?> c = BASES[base];
      for (int d = 0; d < depth; d++) c = c.arrayType();
      return c;
    }

    boolean there(int x) {
      return x >= -1 && x < things.size();
    }

    Object at(int x) {
      return x == -1 ? null : things.get(x);
    }

    int numberOf(Object o) {
      for (int x = 0; x < things.size(); x++) {
        if (things.get(x) == o) return x;
      }
      return -1;
    }

    int add(Object o, int base, int depth) {
      things.add(o);
      kinds.add(new int[] {base, depth});
      return things.size() - 1;
    }

    long tried(Call call) {
      int failure;
      try {
        return call.answer();
      } catch (NullPointerException e) {
        failure = 1;
      } catch (ClassCastException e) {
        failure = 2;
      } catch (IndexOutOfBoundsException e) {
        failure = 3;
      } catch (ArrayStoreException e) {
        failure = 4;
      } catch (NegativeArraySizeException e) {
        failure = 5;
      }
      failures++;
      latest = failure;
      return -10 - failure;
    }

    static boolean badKind(int base, int depth) {
      if (base < 0 || base > 6 || depth < 0 || depth > 3) return true;
      return base > 4 && depth != 1 && depth != 2;
    }

    long piece(int base, int worth) {
      if (base < 0 || base > 3) return -2;
      if (things.size() == 60) return -3;
      Piece p = base == 0 ? new Piece() : base == 1 ? new Vase() : base == 2 ? new Coin() : new Crown();
      p.own = worth;
      return add(p, base, 0);
    }

    long row(int base, int depth, int n) {
      if (badKind(base, depth) || depth == 0 || n > 8) return -2;
      if (things.size() == 60) return -3;
      return tried(() -> add(Array.newInstance(kind(base, depth - 1), n), base, depth));
    }

    long grid(int base, int n, int m) {
      if (base < 0 || base > 6 || n > 8 || m > 8) return -2;
      if (things.size() + 1 + (n < 0 ? 0 : n) > 60) return -3;
      return tried(() -> {
        Object[] made = (Object[]) Array.newInstance(BASES[base], n, m);
        int first = add(made, base, 2);
        for (Object inner : made) add(inner, base, 1);
        return first;
      });
    }

    long put(int r, int i, int x) {
      if (!there(r) || !there(x)) return -2;
      return tried(() -> store(at(r), i, at(x)));
    }

    private static long store(Object r, int i, Object x) {
      if (r == null || r instanceof Piece[]) ((Piece[]) r)[i] = (Piece) x;
      else if (r instanceof Piece[][]) ((Piece[][]) r)[i] = (Piece[]) x;
      else if (r instanceof Piece[][][]) ((Piece[][][]) r)[i] = (Piece[][]) x;
      else if (r instanceof Frail[]) ((Frail[]) r)[i] = (Frail) x;
      else if (r instanceof Frail[][]) ((Frail[][]) r)[i] = (Frail[]) x;
      else if (r instanceof Frail[][][]) ((Frail[][][]) r)[i] = (Frail[][]) x;
      else if (r instanceof int[][]) ((int[][]) r)[i] = (int[]) x;
      else ((long[][]) r)[i] = (long[]) x;
      return 1;
    }

    long get(int r, int i) {
      if (!there(r)) return -2;
      return tried(() -> numberOf(((Object[]) at(r))[i]));
    }

    long set(int r, int i, long v) {
      if (!there(r)) return -2;
      return tried(() -> {
        if (at(r) instanceof int[]) ((int[]) at(r))[i] = (int) v;
        else ((long[]) at(r))[i] = v;
        return 1;
      });
    }

    long number(int r, int i) {
      if (r < 0 || !there(r) || i < 0) return 0;
      if (at(r) instanceof int[]) return i < ((int[]) at(r)).length ? ((int[]) at(r))[i] : 0;
      if (at(r) instanceof long[]) return i < ((long[]) at(r)).length ? ((long[]) at(r))[i] : 0;
      return 0;
    }

    long is(int x, int base, int depth) {
      if (!there(x) || badKind(base, depth)) return -2;
      return kind(base, depth).isInstance(at(x)) ? 1 : 0;
    }

    long door(int k, int base, int depth) {
      if (k < 0 || k > 7 || badKind(base, depth)) return -2;
      doors[k] = kind(base, depth);
      return 1;
    }

    long through(int x, int k, int n) {
      if (!there(x) || k < 0 || k > 7 || n < 0 || n > 8 - k) return -2;
      return tried(() -> {
        for (int d = k; d < k + n; d++) {
          lastDoor = d;
          doors[d].cast(at(x));
        }
        lastDoor = -1;
        return 1;
      });
    }

    static long worthOf(Object o) {
      long sum = 0;
      if (o instanceof Piece) return ((Piece) o).worth();
      if (o instanceof int[]) for (int v : (int[]) o) sum += v;
      if (o instanceof long[]) for (long v : (long[]) o) sum += v;
      if (o instanceof Object[]) for (Object inner : (Object[]) o) sum += worthOf(inner);
      return sum;
    }

    long worth(int x) {
      return there(x) ? worthOf(at(x)) : 0;
    }

    long copy(int x) {
      if (!there(x)) return -2;
      if (things.size() == 60) return -3;
      return tried(() -> {
        Object o = at(x);
        Object twin;
        if (o instanceof int[]) twin = ((int[]) o).clone();
        else if (o instanceof long[]) twin = ((long[]) o).clone();
        else twin = ((Object[]) o).clone();
        return add(twin, kinds.get(x)[0], kinds.get(x)[1]);
      });
    }

    long carry(int r, int i, int s, int j, int n) {
      if (!there(r) || !there(s)) return -2;
      return tried(() -> {
        System.arraycopy(at(r), i, at(s), j, n);
        return 1;
      });
    }

    static long frailOf(Object o) {
      if (o instanceof Piece) return o instanceof Frail ? 1 : 0;
      long sum = 0;
      if (o != null) for (Object inner : (Object[]) o) sum += frailOf(inner);
      return sum;
    }

    long frail(int x) {
      if (!there(x)) return -2;
      return tried(() -> {
        if (x == -1) throw new NullPointerException();
        if (kinds.get(x)[0] > 4) throw new ClassCastException();
        return frailOf(at(x));
      });
    }

    long about(int x, int what) {
      if (x < 0 || !there(x) || what < 0 || what > 2) return -2;
      if (what < 2) return kinds.get(x)[what];
      return at(x) instanceof Piece ? -1 : Array.getLength(at(x));
    }

    long bases(int x) {
      if (x < 0 || !there(x)) return -2;
      long bits = 0;
      for (int b = 0; b < 7; b++) {
        if (kind(b, kinds.get(x)[1]).isInstance(at(x))) bits |= 1L << b;
      }
      return bits;
    }

    long count(int what) {
      return what == 0 ? things.size() : what == 1 ? failures : what == 2 ? latest : -2;
    }

    long clear() {
      int before = things.size();
      things.clear();
      kinds.clear();
      openDoors();
      return before;
    }
  }

  // A fixed row of numbers, so that every run of this test is the same.
  private static long seed = 20261116L;

  private static int upTo(int low, int high) {
    seed = seed * 6364136223846793005L + 1442695040888963407L;
    return low + (int) ((seed >>> 33) % (high - low + 1));
  }

  private static int oneOf(int low, int high) {
    int luck = upTo(0, 99);
    if (luck == 0) return Integer.MAX_VALUE;
    if (luck == 1) return Integer.MIN_VALUE;
    return luck < 8 ? upTo(low - 1, high + 1) : upTo(low, high);
  }

  private static int thing(Model m) {
    int last = m.things.size() - 1;
    return upTo(0, 19) == 0 ? upTo(-2, last + 1) : oneOf(Math.min(0, last), last);
  }

  private static void step(String at, Model m, DepotTrays d, int widest) {
    int x = thing(m), y = thing(m), i = oneOf(0, widest), j = oneOf(0, widest - 1), n = oneOf(0, widest);
    int what = oneOf(0, 2);
    int base = oneOf(0, 6), depth = oneOf(0, 3), k = oneOf(0, 7);
    long v = upTo(0, 1) == 0 ? upTo(-9, 9) : seed;
    String with = at + " x " + x + " y " + y + " i " + i + " j " + j + " n " + n + " base " + base
        + " depth " + depth + " k " + k + " v " + v + " what " + what + " ";
    switch (upTo(0, 30)) {
      case 0: Due.due(with + "piece", d.piece(base, (int) v), m.piece(base, (int) v)); break;
      case 1: Due.due(with + "row", d.row(base, depth, n), m.row(base, depth, n)); break;
      case 2: {
        int size = upTo(0, 9) == 0 ? oneOf(0, 8) : oneOf(0, 2);
        Due.due(with + "grid " + size, d.grid(base, size, n), m.grid(base, size, n));
        break;
      }
      case 3: Due.due(with + "get", d.get(x, i), m.get(x, i)); break;
      case 4: Due.due(with + "number", d.number(x, i), m.number(x, i)); break;
      case 5: Due.due(with + "is", d.is(x, base, depth), m.is(x, base, depth)); break;
      case 6: Due.due(with + "door", d.door(k, base, depth), m.door(k, base, depth)); break;
      case 7: Due.due(with + "through", d.through(x, k, n), m.through(x, k, n)); break;
      case 8: Due.due(with + "lastDoor", d.lastDoor(), m.lastDoor); break;
      case 9: Due.due(with + "worth", d.worth(x), m.worth(x)); break;
      case 10: Due.due(with + "copy", d.copy(x), m.copy(x)); break;
      case 11: Due.due(with + "frail", d.frail(x), m.frail(x)); break;
      case 12: Due.due(with + "about", d.about(x, what), m.about(x, what)); break;
      case 13: Due.due(with + "bases", d.bases(x), m.bases(x)); break;
      case 14: Due.due(with + "count", d.count(what), m.count(what)); break;
      case 15: case 16: Due.due(with + "set", d.set(x, i, v), m.set(x, i, v)); break;
      case 17:
        if (upTo(0, 7) == 0) Due.due(with + "clear", d.clear(), m.clear());
        break;
      case 18: case 19: case 20: case 21:
        Due.due(with + "carry", d.carry(x, i, y, j, n), m.carry(x, i, y, j, n));
        break;
      default: Due.due(with + "put", d.put(x, i, y), m.put(x, i, y)); break;
    }
  }

  public static void main(String[] args) {
    for (int run = 0; run < RUNS; run++) {
      Model m = new Model();
      DepotTrays d = new DepotTrays();
      for (int call = 0; call < CALLS; call++) {
        step("run " + run + ", call " + call + ":", m, d, run % 2 == 0 ? 4 : 8);
      }
    }
    Due.end();
  }
}
