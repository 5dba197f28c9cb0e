/** The sentences on PUT and of promises 5 to 8 that name an edge: put, get, set, number. */
public final class PlaceEdgesTest extends Edges {
  public static void main(String[] args) {
    Due.sentence("PUT", "CAST: x is a THING that is not (b, e - 1)", PlaceEdgesTest::putCast);
    Due.sentence("PUT", "INDEX: there is no PLACE i", PlaceEdgesTest::putIndex);
    Due.sentence("PUT", "STORE: x is a THING that is not of its base (its own one) with DEPTH e - 1.",
        PlaceEdgesTest::putStore);
    Due.sentence("PUT", "the first of these", PlaceEdgesTest::putOrder);
    Due.sentence("PUT", "r NONE: CAST: x is a THING that is not (0, 0); else NULL.", PlaceEdgesTest::putIntoNone);
    Due.sentence("PUT", "Any other r: CAST.", PlaceEdgesTest::putIntoOthers);

    Due.sentence("5", "PUT: 1.", PlaceEdgesTest::putTaken);
    Due.sentence("5", "BAD: r, x (both may be NONE).", PlaceEdgesTest::putBad);

    Due.sentence("6", "The THING in PLACE i; NONE.", PlaceEdgesTest::getTaken);
    Due.sentence("6", "BAD (r may be NONE)", PlaceEdgesTest::getBad);
    Due.sentence("6", "NULL: r is NONE", PlaceEdgesTest::getNull);
    Due.sentence("6", "CAST: r is a PIECE, a LEDGER", PlaceEdgesTest::getCast);
    Due.sentence("6", "INDEX.", PlaceEdgesTest::getIndex);

    Due.sentence("7", "The number in PLACE i of a LEDGER becomes v", PlaceEdgesTest::setTaken);
    Due.sentence("7", "(of base 5 its lowest 32 bits, with their sign)", PlaceEdgesTest::setLowest32Bits);
    Due.sentence("7", "BAD (r may be NONE)", PlaceEdgesTest::setBad);
    Due.sentence("7", "FAILURES: NULL", PlaceEdgesTest::setNull);
    Due.sentence("7", "CAST: r is none", PlaceEdgesTest::setCast);
    Due.sentence("7", "INDEX.", PlaceEdgesTest::setIndex);

    Due.sentence("8", "That number", PlaceEdgesTest::numberTaken);
    Due.sentence("8", "0, if set() would not have it (by number() nothing changes).", PlaceEdgesTest::numberRefused);
    Due.end();
  }

  /** The base b of the sentences on PUT. */
  private static int widest(int r) {
    return goesFor(baseOf(r), PIECE) ? PIECE : baseOf(r);
  }

  private static boolean isOf(int x, int base, int depth) {
    return depthOf(x) == depth && goesFor(baseOf(x), base);
  }

  private static void putCast() {
    for (int r = of(PIECE, 1); r < KINDS; r++) {
      if (isLedger(r)) continue;
      for (int x = 0; x < KINDS; x++) {
        if (isOf(x, widest(r), depthOf(r) - 1)) continue;
        int row = r, thing = x;
        refused("put " + x + " into " + r, Edges::mixed, d -> d.put(row, 1, thing), CAST);
      }
    }
  }

  private static void putIndex() {
    for (int r = of(PIECE, 1); r < KINDS; r++) {
      if (isLedger(r)) continue;
      int row = r, x = oneFor(r);
      DepotTrays d = mixed();
      due("the first PLACE of " + r, d.put(r, 0, x), 1);
      due("the last PLACE of " + r, d.put(r, 2, x), 1);
      duePlaces("all three", d, r, x, x, x);
      for (int i : new int[] {LOWEST, -1, 3, 8, HIGHEST}) {
        refused("PLACE " + i + " of " + r, Edges::mixed, e -> e.put(row, i, x), INDEX);
        refused("NONE, PLACE " + i + " of " + r, Edges::mixed, e -> e.put(row, i, NONE), INDEX);
      }
    }
    due("PLACE 7 of eight", mixed().put(EIGHT, 7, VASE), 1);
    refused("PLACE 8 of eight", Edges::mixed, d -> d.put(EIGHT, 8, VASE), INDEX);
    refused("PLACE -1 of eight", Edges::mixed, d -> d.put(EIGHT, -1, VASE), INDEX);
    refused("PLACE 0 of none", Edges::mixed, d -> d.put(NO_PLACES, 0, VASE), INDEX);
    refused("NONE, PLACE 0 of none", Edges::mixed, d -> d.put(NO_PLACES, 0, NONE), INDEX);
    refused("PLACE -1 of none", Edges::mixed, d -> d.put(NO_PLACES, -1, VASE), INDEX);
  }

  private static void putStore() {
    int stores = 0;
    for (int r = of(PIECE, 1); r < KINDS; r++) {
      if (isLedger(r)) continue;
      for (int x = 0; x < KINDS; x++) {
        int row = r, thing = x, below = depthOf(r) - 1;
        if (!isOf(x, widest(r), below) || isOf(x, baseOf(r), below)) continue;
        refused("put " + x + " into " + r, Edges::mixed, d -> d.put(row, 1, thing), STORE);
        stores++;
      }
    }
    // VASES refuse 3 of the 4 bases that are PIECES, COINS 2, CROWNS 3; at three DEPTHS.
    due("how many pairs", stores, 24);
  }

  private static void putOrder() {
    int vases = of(VASE, 1), frail = of(FRAIL, 1), ints = of(INT, 2);
    for (int i : new int[] {-1, 3}) {
      refused("CAST ahead of INDEX", Edges::mixed, d -> d.put(vases, i, EIGHT), CAST);
      refused("CAST ahead of INDEX", Edges::mixed, d -> d.put(frail, i, COIN), CAST);
      refused("CAST ahead of INDEX", Edges::mixed, d -> d.put(ints, i, of(LONG, 1)), CAST);
      refused("INDEX ahead of STORE", Edges::mixed, d -> d.put(vases, i, COIN), INDEX);
      refused("INDEX ahead of STORE", Edges::mixed, d -> d.put(of(CROWN, 3), i, of(COIN, 2)), INDEX);
    }
    refused("CAST, PLACE 0 of none", Edges::mixed, d -> d.put(NO_PLACES, 0, EIGHT), CAST);
  }

  private static void putIntoNone() {
    for (int i : new int[] {LOWEST, -1, 0, 9, HIGHEST}) {
      refused("NONE", Edges::mixed, d -> d.put(NONE, i, NONE), NULL);
      for (int x = 0; x < MIXED; x++) {
        int thing = x;
        refused("put " + x, Edges::mixed, d -> d.put(NONE, i, thing), x <= CROWN ? NULL : CAST);
      }
    }
    refused("with no THINGS", DepotTrays::new, d -> d.put(NONE, 0, NONE), NULL);
  }

  private static void putIntoOthers() {
    int[] others = {PIECE, VASE, COIN, CROWN, of(INT, 1), of(LONG, 1)};
    for (int r : others) {
      for (int x : new int[] {NONE, PIECE, VASE, COIN, CROWN, EIGHT, of(INT, 1)}) {
        for (int i : new int[] {-1, 0, 3}) {
          refused("put " + x + " into " + r, Edges::mixed, d -> d.put(r, i, x), CAST);
        }
      }
    }
  }

  private static void putTaken() {
    for (int r = of(PIECE, 1); r < KINDS; r++) {
      if (isLedger(r)) continue;
      DepotTrays d = mixed();
      for (int x = 0; x < KINDS; x++) {
        if (!isOf(x, baseOf(r), depthOf(r) - 1)) continue;
        due("put " + x + " into " + r, d.put(r, 2, x), 1);
        duePlaces("the others as they were", d, r, NONE, oneFor(r), x);
      }
      due("put NONE into " + r, d.put(r, 1, NONE), 1);
      due("it is gone", d.get(r, 1), NONE);
      due("count(1) as it was", d.count(1), 2);
    }
    DepotTrays d = filled(59);
    due("a ROW as the sixtieth", d.row(PIECE, 1, 8), 59);
    due("its last PLACE", d.put(59, 7, 58), 1);
    duePlaces("the last PLACE of all", d, 59, NONE, NONE, NONE, NONE, NONE, NONE, NONE, 58);
  }

  private static void putBad() {
    for (int no : new int[] {LOWEST, -3, -2, MIXED, 60, HIGHEST}) {
      refused("r " + no, Edges::mixed, d -> d.put(no, 0, VASE), BAD);
      refused("r, x NONE", Edges::mixed, d -> d.put(no, 0, NONE), BAD);
      refused("r ahead of CAST", Edges::mixed, d -> d.put(no, -1, EIGHT), BAD);
      refused("x " + no, Edges::mixed, d -> d.put(EIGHT, 0, no), BAD);
      refused("x ahead of NULL", Edges::mixed, d -> d.put(NONE, 0, no), BAD);
      refused("x ahead of CAST", Edges::mixed, d -> d.put(VASE, 0, no), BAD);
      refused("x ahead of CAST", Edges::mixed, d -> d.put(of(INT, 1), 0, no), BAD);
      refused("x ahead of INDEX", Edges::mixed, d -> d.put(EIGHT, 8, no), BAD);
      refused("both", Edges::mixed, d -> d.put(no, 0, no), BAD);
    }
    due("the last THINGS", full().put(EIGHT, 0, 59), 1);
    refused("x 60", Edges::full, d -> d.put(EIGHT, 0, 60), BAD);
    refused("both NONE", Edges::mixed, d -> d.put(NONE, 0, NONE), NULL);
  }

  private static void getTaken() {
    for (int r = of(PIECE, 1); r < KINDS; r++) {
      if (isLedger(r)) continue;
      DepotTrays d = mixed();
      due("NONE in the first", d.get(r, 0), NONE);
      due("the middle one", d.get(r, 1), oneFor(r));
      due("NONE in the last", d.get(r, 2), NONE);
      due("none FAILED", d.count(1), 2);
    }
    duePlaces("eight", mixed(), EIGHT, 0, 1, 2, 3, 0, 1, 2, 3);
  }

  private static void getBad() {
    for (int no : new int[] {LOWEST, -2, MIXED, HIGHEST}) {
      refused("r " + no, Edges::mixed, d -> d.get(no, 0), BAD);
      refused("r ahead of INDEX", Edges::mixed, d -> d.get(no, -1), BAD);
    }
    refused("r 0 with no THINGS", DepotTrays::new, d -> d.get(0, 0), BAD);
  }

  private static void getNull() {
    for (int i : new int[] {LOWEST, -1, 0, 8}) refused("PLACE " + i, Edges::mixed, d -> d.get(NONE, i), NULL);
    refused("with no THINGS", DepotTrays::new, d -> d.get(NONE, 0), NULL);
  }

  private static void getCast() {
    for (int r : new int[] {PIECE, VASE, COIN, CROWN, of(INT, 1), of(LONG, 1)}) {
      for (int i : new int[] {-1, 0, 2, 3}) {
        refused("get " + r + ", " + i, Edges::mixed, d -> d.get(r, i), CAST);
      }
    }
    due("a ROW of LEDGERS", mixed().get(of(INT, 2), 1), of(INT, 1));
    due("a ROW of LEDGERS", mixed().get(of(LONG, 2), 1), of(LONG, 1));
  }

  private static void getIndex() {
    for (int r = of(PIECE, 1); r < KINDS; r++) {
      if (isLedger(r)) continue;
      int row = r;
      for (int i : new int[] {LOWEST, -1, 3, HIGHEST}) {
        refused("get " + r + ", " + i, Edges::mixed, d -> d.get(row, i), INDEX);
      }
    }
    refused("PLACE 8 of eight", Edges::mixed, d -> d.get(EIGHT, 8), INDEX);
    refused("PLACE -1 of eight", Edges::mixed, d -> d.get(EIGHT, -1), INDEX);
    refused("PLACE 0 of none", Edges::mixed, d -> d.get(NO_PLACES, 0), INDEX);
  }

  private static void setTaken() {
    for (int base = INT; base <= LONG; base++) {
      DepotTrays d = filled(59);
      due("the sixtieth", d.row(base, 1, 8), 59);
      due("the first PLACE", d.set(59, 0, -5), 1);
      due("the last PLACE", d.set(59, 7, 6), 1);
      dueNumbers("the others as they were", d, 59, -5, 0, 0, 0, 0, 0, 0, 6);
      due("once more", d.set(59, 7, 0), 1);
      due("it has become 0", d.number(59, 7), 0);
      due("none FAILED", d.count(1), 2);
    }
    DepotTrays d = mixed();
    long[] values = {Long.MIN_VALUE, LOWEST - 1L, LOWEST, -1, 0, 1, HIGHEST, HIGHEST + 1L, Long.MAX_VALUE};
    for (long v : values) {
      due("a long " + v, d.set(of(LONG, 1), 1, v), 1);
      due("it", d.number(of(LONG, 1), 1), v);
    }
  }

  private static void setLowest32Bits() {
    long[][] values = {
      {HIGHEST, HIGHEST}, {HIGHEST + 1L, LOWEST}, {LOWEST, LOWEST}, {LOWEST - 1L, HIGHEST},
      {0xFFFFFFFFL, -1}, {0x100000000L, 0}, {0x100000001L, 1}, {0x180000000L, LOWEST},
      {-1, -1}, {-0x100000000L, 0}, {-0x100000001L, -1}, {Long.MAX_VALUE, -1}, {Long.MIN_VALUE, 0},
    };
    DepotTrays d = mixed();
    for (long[] value : values) {
      due("set " + value[0], d.set(of(INT, 1), 1, value[0]), 1);
      due("of " + value[0], d.number(of(INT, 1), 1), value[1]);
      due("it counts for the WORTH", d.worth(of(INT, 1)), 7L + LOWEST + value[1]);
    }
  }

  private static void setBad() {
    for (int no : new int[] {LOWEST, -2, MIXED, HIGHEST}) {
      refused("r " + no, Edges::mixed, d -> d.set(no, 0, 1), BAD);
      refused("r ahead of INDEX", Edges::mixed, d -> d.set(no, -1, 1), BAD);
    }
    refused("r 0 with no THINGS", DepotTrays::new, d -> d.set(0, 0, 1), BAD);
  }

  private static void setNull() {
    for (int i : new int[] {LOWEST, -1, 0, 8}) refused("PLACE " + i, Edges::mixed, d -> d.set(NONE, i, 1), NULL);
  }

  private static void setCast() {
    for (int x = 0; x < MIXED; x++) {
      int r = x;
      if (x < KINDS && isLedger(x)) continue;
      for (int i : new int[] {-1, 0, 1, 3}) refused("set " + r, Edges::mixed, d -> d.set(r, i, 1), CAST);
    }
  }

  private static void setIndex() {
    for (int r : new int[] {of(INT, 1), of(LONG, 1)}) {
      due("PLACE 2 of three", mixed().set(r, 2, 1), 1);
      for (int i : new int[] {LOWEST, -1, 3, HIGHEST}) {
        refused("PLACE " + i, Edges::mixed, d -> d.set(r, i, 1), INDEX);
      }
    }
    for (int base = INT; base <= LONG; base++) {
      DepotTrays d = new DepotTrays();
      due("PLACE 0 of none", d.set(d.row(base, 1, 0), 0, 1), INDEX);
      due("PLACE 7 of eight", d.set(d.row(base, 1, 8), 7, 1), 1);
      due("PLACE 8 of eight", d.set(1, 8, 1), INDEX);
    }
  }

  private static void numberTaken() {
    dueNumbers("ints", mixed(), of(INT, 1), 7, 0, LOWEST);
    dueNumbers("longs", mixed(), of(LONG, 1), Long.MAX_VALUE, 0, -3);
    refused("a number that is there", Edges::mixed, d -> d.number(of(INT, 1), 2), LOWEST);
  }

  private static void numberRefused() {
    for (int no : new int[] {LOWEST, -2, NONE, MIXED, HIGHEST}) {
      refused("r " + no, Edges::mixed, d -> d.number(no, 0), 0);
    }
    for (int x = 0; x < MIXED; x++) {
      int r = x;
      if (x < KINDS && isLedger(x)) continue;
      refused("no LEDGER " + r, Edges::mixed, d -> d.number(r, 1), 0);
    }
    for (int r : new int[] {of(INT, 1), of(LONG, 1)}) {
      for (int i : new int[] {LOWEST, -1, 3, 8, HIGHEST}) {
        refused("PLACE " + i, Edges::mixed, d -> d.number(r, i), 0);
      }
    }
    DepotTrays d = new DepotTrays();
    int none = d.row(LONG, 1, 0), one = d.row(LONG, 1, 1);
    due("the next one's number", d.set(one, 0, 5), 1);
    due("PLACE 0 of none", d.number(none, 0), 0);
    due("PLACE 8 of none", d.number(none, 8), 0);
    due("none FAILED", d.count(1), 0);
  }
}
