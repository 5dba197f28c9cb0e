/** The sentences on CARRIED and of promise 15 that name an edge. */
public final class CarryEdgesTest extends Edges {
  public static void main(String[] args) {
    Due.sentence("CARRIED", "NULL: r or s is NONE.", CarryEdgesTest::none);
    Due.sentence("CARRIED", "STORE: one is no ROW", CarryEdgesTest::noRow);
    Due.sentence("CARRIED", "or one a LEDGER and the other not", CarryEdgesTest::oneLedger);
    Due.sentence("CARRIED", "or both, of unlike bases.", CarryEdgesTest::unlikeLedgers);
    Due.sentence("CARRIED", "INDEX: i, j, n below 0", CarryEdgesTest::below0);
    Due.sentence("CARRIED", "or there are not so many PLACES.", CarryEdgesTest::notSoMany);
    Due.sentence("CARRIED", "Then (all as they were ahead) PLACE by PLACE", CarryEdgesTest::ontoItself);
    Due.sentence("CARRIED", "STORE at the first THING that does not go into s", CarryEdgesTest::indexAheadOfThings);
    Due.sentence("CARRIED", "(of its base, DEPTH one less than its own)", CarryEdgesTest::kindsThatGo);
    Due.sentence("CARRIED", "those ahead of it have come.", CarryEdgesTest::thoseAhead);
    Due.sentence("CARRIED", "NONE goes into any.", CarryEdgesTest::noneGoes);

    Due.sentence("15", "CARRIED: 1.", CarryEdgesTest::taken);
    Due.sentence("15", "BAD: r, s (both may be NONE).", CarryEdgesTest::bad);
    Due.end();
  }

  private static final int LEAST_WRONG = -1, ALL = 8;

  private static void refusedCarry(String why, int r, int s, long want) {
    refused(why + ": " + r + " to " + s, Edges::mixed, d -> d.carry(r, 0, s, 0, 0), want);
    refused(why + ", and i", Edges::mixed, d -> d.carry(r, LEAST_WRONG, s, 0, 1), want);
    refused(why + ", and j", Edges::mixed, d -> d.carry(r, 0, s, LEAST_WRONG, 1), want);
    refused(why + ", and n", Edges::mixed, d -> d.carry(r, 0, s, 0, LEAST_WRONG), want);
    refused(why + ", and too many", Edges::mixed, d -> d.carry(r, 0, s, 0, 9), want);
  }

  private static void none() {
    refusedCarry("both", NONE, NONE, NULL);
    for (int x = 0; x < MIXED; x++) {
      refusedCarry("r", NONE, x, NULL);
      refusedCarry("s", x, NONE, NULL);
    }
    refused("with no THINGS", DepotTrays::new, d -> d.carry(NONE, 0, NONE, 0, 0), NULL);
  }

  private static void noRow() {
    for (int x = 0; x < MIXED; x++) {
      for (int piece = PIECE; piece <= CROWN; piece++) {
        refusedCarry("r a PIECE", piece, x, STORE);
        refusedCarry("s a PIECE", x, piece, STORE);
      }
    }
  }

  private static void oneLedger() {
    for (int ledger : new int[] {of(INT, 1), of(LONG, 1)}) {
      for (int x = of(PIECE, 1); x < MIXED; x++) {
        if (x < KINDS && isLedger(x)) continue;
        refusedCarry("r a LEDGER", ledger, x, STORE);
        refusedCarry("s a LEDGER", x, ledger, STORE);
      }
    }
  }

  private static void unlikeLedgers() {
    refusedCarry("ints to longs", of(INT, 1), of(LONG, 1), STORE);
    refusedCarry("longs to ints", of(LONG, 1), of(INT, 1), STORE);
    due("ints to ints", mixed().carry(of(INT, 1), 0, of(INT, 1), 0, 3), 1);
    due("longs to longs", mixed().carry(of(LONG, 1), 0, of(LONG, 1), 0, 3), 1);
    due("ROWS of ints to ROWS of longs", mixed().carry(of(INT, 2), 0, of(LONG, 2), 0, 1), 1);
  }

  private static void below0() {
    int[] rows = {of(PIECE, 1), of(CROWN, 3), of(INT, 1), of(LONG, 1), of(INT, 2)};
    for (int r : rows) {
      for (int below : new int[] {-1, LOWEST}) {
        refused("i", Edges::mixed, d -> d.carry(r, below, r, 0, 1), INDEX);
        refused("i, n 0", Edges::mixed, d -> d.carry(r, below, r, 0, 0), INDEX);
        refused("j", Edges::mixed, d -> d.carry(r, 0, r, below, 1), INDEX);
        refused("j, n 0", Edges::mixed, d -> d.carry(r, 0, r, below, 0), INDEX);
        refused("n", Edges::mixed, d -> d.carry(r, 0, r, 0, below), INDEX);
        refused("n at the end", Edges::mixed, d -> d.carry(r, 3, r, 3, below), INDEX);
        refused("n past the end", Edges::mixed, d -> d.carry(r, 4, r, 4, below), INDEX);
        refused("all", Edges::mixed, d -> d.carry(r, below, r, below, below), INDEX);
      }
      due("none below 0", mixed().carry(r, 0, r, 0, 0), 1);
    }
  }

  private static void notSoMany() {
    int[] edges = {LOWEST, -1, 0, 1, 2, 3, 4, 5, 6, 7, 8, 9, HIGHEST - 8, HIGHEST - 1, HIGHEST};
    for (int from : new int[] {0, 3, ALL}) {
      for (int to : new int[] {0, 5, ALL}) {
        for (int i : edges) for (int j : edges) for (int n : edges) dueRoom(from, to, i, j, n);
      }
    }
    refused("n 9 of eight", Edges::mixed, d -> d.carry(EIGHT, 0, EIGHT, 0, 9), INDEX);
    refused("i 1 and n 8 of eight", Edges::mixed, d -> d.carry(EIGHT, 1, EIGHT, 0, 8), INDEX);
    refused("j 1 and n 8 of eight", Edges::mixed, d -> d.carry(EIGHT, 0, EIGHT, 1, 8), INDEX);
    refused("i 9, n 0 of eight", Edges::mixed, d -> d.carry(EIGHT, 9, EIGHT, 0, 0), INDEX);
    refused("j 9, n 0 of eight", Edges::mixed, d -> d.carry(EIGHT, 0, EIGHT, 9, 0), INDEX);
    refused("n 1 of none", Edges::mixed, d -> d.carry(NO_PLACES, 0, EIGHT, 0, 1), INDEX);
    refused("n 1 to none", Edges::mixed, d -> d.carry(EIGHT, 0, NO_PLACES, 0, 1), INDEX);
    refused("i 1, n 0 of none", Edges::mixed, d -> d.carry(NO_PLACES, 1, EIGHT, 0, 0), INDEX);
    due("n 0 of none to none", mixed().carry(NO_PLACES, 0, NO_PLACES, 0, 0), 1);
    due("n 0 at the end", mixed().carry(EIGHT, 8, NO_PLACES, 0, 0), 1);
  }

  private static void dueRoom(int from, int to, int i, int j, int n) {
    boolean fits = i >= 0 && j >= 0 && n >= 0 && (long) i + n <= from && (long) j + n <= to;
    String call = "carry(" + i + ", " + j + ", " + n + ") of " + from + " to " + to;
    for (int base : new int[] {PIECE, INT, LONG}) {
      DepotTrays d = new DepotTrays();
      int r = d.row(base, 1, from), s = d.row(base, 1, to);
      due(call, d.carry(r, i, s, j, n), fits ? 1 : INDEX);
    }
  }

  private static void ontoItself() {
    for (int i = 0; i <= ALL; i++) {
      for (int j = 0; j <= ALL; j++) {
        for (int n = 0; n <= ALL - Math.max(i, j); n++) {
          DepotTrays d = new DepotTrays();
          int things = d.row(PIECE, 1, ALL), longs = d.row(LONG, 1, ALL);
          int[] due = new int[ALL];
          long[] dueLongs = new long[ALL];
          for (int p = 0; p < ALL; p++) {
            int x = d.piece(CROWN, p);
            d.put(things, p, x);
            d.set(longs, p, Long.MAX_VALUE - p);
          }
          for (int p = 0; p < ALL; p++) {
            int was = p >= j && p < j + n ? p - j + i : p;
            due[p] = 2 + was;
            dueLongs[p] = Long.MAX_VALUE - was;
          }
          due("carry", d.carry(things, i, things, j, n), 1);
          due("carry", d.carry(longs, i, longs, j, n), 1);
          duePlaces("things", d, things, due);
          dueNumbers("longs", d, longs, dueLongs);
        }
      }
    }
  }

  private static void indexAheadOfThings() {
    int vases = of(VASE, 1), cabinet = of(PIECE, 2);
    refused("a COIN does not go", Edges::mixed, d -> d.carry(EIGHT, 2, vases, 0, 1), STORE);
    refused("nor as one too many", Edges::mixed, d -> d.carry(EIGHT, 2, vases, 0, 4), INDEX);
    refused("nor to PLACE 3", Edges::mixed, d -> d.carry(EIGHT, 2, vases, 3, 1), INDEX);
    refused("nor from PLACE -1", Edges::mixed, d -> d.carry(EIGHT, -1, vases, 0, 1), INDEX);
    refused("a tray into a cabinet's tray", Edges::mixed, d -> d.carry(cabinet, 1, EIGHT, 0, 2), STORE);
    refused("and one too many", Edges::mixed, d -> d.carry(cabinet, 1, EIGHT, 0, 3), INDEX);
    due("n 0 of what does not go", mixed().carry(EIGHT, 2, vases, 0, 0), 1);
  }

  private static void kindsThatGo() {
    for (int r = of(PIECE, 1); r < KINDS; r++) {
      for (int s = of(PIECE, 1); s < KINDS; s++) {
        if (isLedger(r) || isLedger(s)) continue;
        int from = r, to = s, x = oneFor(r);
        boolean goes = depthOf(x) == depthOf(s) - 1 && goesFor(baseOf(x), baseOf(s));
        Call carry = d -> d.carry(from, 1, to, 0, 1);
        if (!goes) {
          refused(r + " to " + s, Edges::mixed, carry, STORE);
          continue;
        }
        DepotTrays d = mixed();
        due(r + " to " + s, carry.answer(d), 1);
        due("it has come", d.get(s, 0), x);
        due("it lies here still", d.get(r, 1), x);
      }
    }
  }

  private static DepotTrays withCoins() {
    DepotTrays d = mixed();
    int s = d.row(COIN, 1, 8);
    for (int i = 0; i < 8; i++) d.put(s, i, COIN);
    return d;
  }

  private static DepotTrays withVaseAt(int at) {
    DepotTrays d = withCoins();
    for (int i = 0; i < 8; i++) d.put(EIGHT, i, i % 2 == 0 ? CROWN : NONE);
    d.put(EIGHT, at, VASE);
    return d;
  }

  private static void thoseAhead() {
    int s = MIXED;
    for (int at = 0; at < 8; at++) {
      int vase = at;
      refusedAs("a VASE at " + at, () -> withVaseAt(vase), d -> d.carry(EIGHT, 0, s, 0, 8), STORE, () -> {
        DepotTrays d = withVaseAt(vase);
        for (int i = 0; i < vase; i++) due("put", d.put(s, i, i % 2 == 0 ? CROWN : NONE), 1);
        return d;
      });
      DepotTrays d = withVaseAt(at);
      due("those ahead alone", d.carry(EIGHT, 0, s, 0, at), 1);
      due("those behind alone", d.carry(EIGHT, at + 1, s, at + 1, 7 - at), 1);
      due("where the VASE would lie", d.get(s, at), COIN);
    }
    refusedAs("a second VASE", () -> withTwoVases(), d -> d.carry(EIGHT, 1, s, 3, 5), STORE, () -> {
      DepotTrays d = withTwoVases();
      due("put", d.put(s, 3, NONE), 1);
      return d;
    });
  }

  private static DepotTrays withTwoVases() {
    DepotTrays d = withVaseAt(2);
    d.put(EIGHT, 4, VASE);
    return d;
  }

  private static void noneGoes() {
    for (int r = of(PIECE, 1); r < KINDS; r++) {
      for (int s = of(PIECE, 1); s < KINDS; s++) {
        if (isLedger(r) || isLedger(s) || r == s) continue;
        DepotTrays d = mixed();
        due("NONE from " + r + " to " + s, d.carry(r, 0, s, 1, 1), 1);
        duePlaces("it has come", d, s, NONE, NONE, NONE);
        duePlaces("as they were", d, r, NONE, oneFor(r), NONE);
      }
    }
  }

  private static void taken() {
    DepotTrays d = mixed();
    int s = d.row(PIECE, 1, 8);
    due("all eight", d.carry(EIGHT, 0, s, 0, 8), 1);
    duePlaces("they have come", d, s, 0, 1, 2, 3, 0, 1, 2, 3);
    due("the last to the first", d.carry(EIGHT, 7, s, 0, 1), 1);
    due("the first to the last", d.carry(EIGHT, 0, s, 7, 1), 1);
    duePlaces("these alone", d, s, 3, 1, 2, 3, 0, 1, 2, 0);
    due("none", d.carry(EIGHT, 0, s, 0, 0), 1);
    duePlaces("as they were", d, s, 3, 1, 2, 3, 0, 1, 2, 0);
    duePlaces("as they were", d, EIGHT, 0, 1, 2, 3, 0, 1, 2, 3);
    int longs = d.row(LONG, 1, 8);
    due("numbers", d.carry(of(LONG, 1), 0, longs, 5, 3), 1);
    dueNumbers("they have come", d, longs, 0, 0, 0, 0, 0, Long.MAX_VALUE, 0, -3);
    due("none FAILED", d.count(1), 2);
    d = filled(59);
    due("a ROW as the sixtieth", d.row(VASE, 1, 8), 59);
    due("to the last PLACE of all", d.carry(EIGHT, 5, 59, 7, 1), 1);
    due("it has come", d.get(59, 7), VASE);
  }

  private static void bad() {
    for (int no : new int[] {LOWEST, -3, -2, MIXED, 60, HIGHEST}) {
      refusedCarry("r", no, EIGHT, BAD);
      refusedCarry("s", EIGHT, no, BAD);
      refusedCarry("r ahead of NULL", no, NONE, BAD);
      refusedCarry("s ahead of NULL", NONE, no, BAD);
      refusedCarry("r ahead of STORE", no, VASE, BAD);
      refusedCarry("s ahead of STORE", of(INT, 1), no, BAD);
      refusedCarry("both", no, no, BAD);
    }
    refused("r 60", Edges::full, d -> d.carry(60, 0, EIGHT, 0, 0), BAD);
    refused("s 60", Edges::full, d -> d.carry(EIGHT, 0, 60, 0, 0), BAD);
    refused("59 is a THING", Edges::full, d -> d.carry(59, 0, EIGHT, 0, 0), STORE);
    refused("59 is a THING", Edges::full, d -> d.carry(EIGHT, 0, 59, 0, 0), STORE);
  }
}
