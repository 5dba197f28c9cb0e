/** The sentences on WORTH and of promises 13 and 16 to 19 that name an edge: what a depot tells. */
public final class TellEdgesTest extends Edges {
  public static void main(String[] args) {
    Due.sentence("WORTH", "of a PIECE its WORTH, of a VASE twice that, of a CROWN that and 100",
        TellEdgesTest::worthOfPieces);
    Due.sentence("WORTH", "of a LEDGER its numbers together", TellEdgesTest::worthOfLedgers);
    Due.sentence("WORTH", "of another ROW those of what lies in its PLACES", TellEdgesTest::worthOfRows);
    Due.sentence("WORTH", "(longs, which wrap; NONE 0)", TellEdgesTest::worthWraps);

    Due.sentence("13", "0: BAD, or NONE.", TellEdgesTest::worthRefused);

    Due.sentence("16", "How many PIECES a ROW (no LEDGER) has in it, at any depth", TellEdgesTest::frailDepths);
    Due.sentence("16", "each as often as it lies there, that are FRAIL", TellEdgesTest::frailAsOften);
    Due.sentence("16", "of a PIECE 1 or 0.", TellEdgesTest::frailPieces);
    Due.sentence("16", "BAD (x may be NONE)", TellEdgesTest::frailBad);
    Due.sentence("16", "FAILURES: NULL; CAST: a ROW of base 5, 6.", TellEdgesTest::frailFails);

    Due.sentence("17", "Of a THING: 0 its base, 1 its DEPTH, 2 how many PLACES (NONE of a PIECE).",
        TellEdgesTest::aboutTaken);
    Due.sentence("17", "BAD.", TellEdgesTest::aboutBad);

    Due.sentence("18", "The bases b, as bits, of which a THING IS (b, its DEPTH).", TellEdgesTest::basesTaken);
    Due.sentence("18", "BAD.", TellEdgesTest::basesBad);

    Due.sentence("19", "How many: 0 THINGS, 1 FAILURES so far, 2 the latest FAILURE (0).", TellEdgesTest::countTaken);
    Due.sentence("19", "BAD.", TellEdgesTest::countBad);
    Due.end();
  }

  private static void worthOfPieces() {
    DepotTrays d = new DepotTrays();
    for (int w : new int[] {LOWEST, LOWEST + 1, -100, -1, 0, 1, HIGHEST - 100, HIGHEST - 99, HIGHEST}) {
      due("a PIECE of " + w, d.worth(d.piece(PIECE, w)), w);
      due("a VASE of " + w, d.worth(d.piece(VASE, w)), w * 2L);
      due("a COIN of " + w, d.worth(d.piece(COIN, w)), w);
      due("a CROWN of " + w, d.worth(d.piece(CROWN, w)), w + 100L);
    }
  }

  private static void worthOfLedgers() {
    for (int base = INT; base <= LONG; base++) {
      DepotTrays d = new DepotTrays();
      due("no PLACES", d.worth(d.row(base, 1, 0)), 0);
      int r = d.row(base, 1, 8);
      due("at first", d.worth(r), 0);
      for (int i = 0; i < 8; i++) d.set(r, i, HIGHEST);
      due("eight", d.worth(r), 8L * HIGHEST);
      for (int i = 0; i < 8; i++) d.set(r, i, LOWEST);
      due("eight below 0", d.worth(r), 8L * LOWEST);
    }
  }

  private static void worthOfRows() {
    DepotTrays d = mixed();
    due("no PLACES", d.worth(NO_PLACES), 0);
    due("eight PLACES", d.worth(EIGHT), 2 * (10 + 40 + 30 + 140));
    due("a tray", d.worth(of(VASE, 1)), 40);
    due("a cabinet", d.worth(of(CROWN, 2)), 140);
    due("a room", d.worth(of(FRAIL, 3)), 40);
    due("a ROW of LEDGERS", d.worth(of(INT, 2)), 7L + LOWEST);
    due("nothing but NONE", d.worth(d.row(COIN, 3, 8)), 0);
    due("a room of all", d.worth(bigRoom(d)), 512 * 140);
  }

  /** A ROW of DEPTH 3 with eight of eight of eight PLACES, a CROWN in each. */
  private static int bigRoom(DepotTrays d) {
    int tray = d.row(CROWN, 1, 8), cabinet = d.row(CROWN, 2, 8), room = d.row(PIECE, 3, 8);
    for (int i = 0; i < 8; i++) {
      due("put", d.put(tray, i, CROWN), 1);
      due("put", d.put(cabinet, i, tray), 1);
      due("put", d.put(room, i, cabinet), 1);
    }
    return room;
  }

  private static void worthWraps() {
    DepotTrays d = new DepotTrays();
    int r = d.row(LONG, 1, 8);
    d.set(r, 0, Long.MAX_VALUE);
    due("the highest", d.worth(r), Long.MAX_VALUE);
    d.set(r, 7, 1);
    due("one above it", d.worth(r), Long.MIN_VALUE);
    d.set(r, 0, Long.MIN_VALUE);
    d.set(r, 7, 0);
    due("the lowest", d.worth(r), Long.MIN_VALUE);
    d.set(r, 7, -1);
    due("one below it", d.worth(r), Long.MAX_VALUE);
    int rows = d.row(LONG, 2, 8);
    d.put(rows, 0, r);
    d.put(rows, 7, r);
    due("twice the highest", d.worth(rows), -2);
    for (int i = 0; i < 8; i++) d.set(r, i, Long.MIN_VALUE);
    due("eight of the lowest", d.worth(r), 0);
    d = mixed();
    due("NONE lies there", d.put(of(VASE, 1), 1, NONE), 1);
    due("NONE 0", d.worth(of(VASE, 1)), 0);
    due("NONE 0 in a room", d.worth(of(VASE, 3)), 0);
  }

  private static void worthRefused() {
    for (int no : new int[] {LOWEST, -2, NONE, MIXED, 60, HIGHEST}) {
      refused("x " + no, Edges::mixed, d -> d.worth(no), 0);
    }
    refused("x 0 with no THINGS", DepotTrays::new, d -> d.worth(0), 0);
    refused("x 60", Edges::full, d -> d.worth(60), 0);
    refused("x 59", Edges::full, d -> d.worth(59), 59);
    due("after clear", cleared().worth(0), 0);
  }

  private static void frailDepths() {
    DepotTrays d = mixed();
    int[] one = {0, 1, 0, 1, 1};
    for (int base = PIECE; base <= FRAIL; base++) {
      for (int depth = 1; depth <= 3; depth++) due("(" + base + ", " + depth + ")", d.frail(of(base, depth)), one[base]);
    }
    due("no PLACES", d.frail(NO_PLACES), 0);
    due("nothing but NONE", d.frail(d.row(FRAIL, 3, 8)), 0);
    due("a ROW of empty ROWS", d.frail(d.grid(VASE, 8, 8)), 0);
    due("a room of all", d.frail(bigRoom(d)), 512);
  }

  private static void frailAsOften() {
    DepotTrays d = mixed();
    due("two VASES, two CROWNS", d.frail(EIGHT), 4);
    due("one less", d.put(EIGHT, 7, NONE), 1);
    due("three", d.frail(EIGHT), 3);
    for (int i = 0; i < 8; i++) d.put(EIGHT, i, VASE);
    due("eight times a VASE", d.frail(EIGHT), 8);
    for (int i = 0; i < 3; i++) d.put(of(PIECE, 2), i, EIGHT);
    due("three times these", d.frail(of(PIECE, 2)), 24);
    due("in a room", d.frail(of(PIECE, 3)), 24);
  }

  private static void frailPieces() {
    int[] want = {0, 1, 0, 1};
    for (int x = PIECE; x <= CROWN; x++) due("piece " + x, mixed().frail(x), want[x]);
    due("the sixtieth", full().frail(59), 0);
  }

  private static void frailBad() {
    for (int no : new int[] {LOWEST, -2, MIXED, 60, HIGHEST}) refused("x " + no, Edges::mixed, d -> d.frail(no), BAD);
    refused("x 0 with no THINGS", DepotTrays::new, d -> d.frail(0), BAD);
    refused("x 60", Edges::full, d -> d.frail(60), BAD);
  }

  private static void frailFails() {
    refused("NULL", Edges::mixed, d -> d.frail(NONE), NULL);
    refused("NULL with no THINGS", DepotTrays::new, d -> d.frail(NONE), NULL);
    for (int base = INT; base <= LONG; base++) {
      for (int depth = 1; depth <= 2; depth++) {
        int x = of(base, depth);
        refused("CAST", Edges::mixed, d -> d.frail(x), CAST);
      }
      DepotTrays d = new DepotTrays();
      due("of no PLACES", d.frail(d.row(base, 1, 0)), CAST);
      due("of no PLACES", d.frail(d.row(base, 2, 0)), CAST);
    }
  }

  private static void aboutTaken() {
    DepotTrays d = mixed();
    for (int x = 0; x < KINDS; x++) {
      due("base", d.about(x, 0), baseOf(x));
      due("DEPTH", d.about(x, 1), depthOf(x));
      due("PLACES", d.about(x, 2), x <= CROWN ? NONE : 3);
    }
    due("no PLACES", d.about(NO_PLACES, 2), 0);
    due("eight PLACES", d.about(EIGHT, 2), 8);
    due("the sixtieth", full().about(59, 2), NONE);
  }

  private static void aboutBad() {
    for (int what : new int[] {LOWEST, -1, 3, HIGHEST}) {
      for (int x : new int[] {NONE, PIECE, EIGHT, MIXED}) {
        refused("what " + what, Edges::mixed, d -> d.about(x, what), BAD);
      }
    }
    for (int no : new int[] {LOWEST, -2, NONE, MIXED, HIGHEST}) {
      for (int what = 0; what <= 2; what++) {
        int w = what;
        refused("x " + no, Edges::mixed, d -> d.about(no, w), BAD);
      }
    }
    refused("x 60", Edges::full, d -> d.about(60, 0), BAD);
  }

  private static void basesTaken() {
    DepotTrays d = mixed();
    int[] want = {1, 2 + 1 + 16, 4 + 1, 8 + 1 + 4 + 16, 16, 32, 64};
    for (int x = 0; x < KINDS; x++) due("bases of " + x, d.bases(x), want[baseOf(x)]);
    due("the sixtieth", full().bases(59), 1);
  }

  private static void basesBad() {
    for (int no : new int[] {LOWEST, -2, NONE, MIXED, HIGHEST}) refused("x " + no, Edges::mixed, d -> d.bases(no), BAD);
    refused("x 0 with no THINGS", DepotTrays::new, d -> d.bases(0), BAD);
    refused("x 60", Edges::full, d -> d.bases(60), BAD);
  }

  private static void countTaken() {
    DepotTrays d = new DepotTrays();
    for (int what = 0; what <= 2; what++) due("at first " + what, d.count(what), 0);
    for (int x = 0; x < 60; x++) {
      due("THINGS", d.count(0), x);
      d.piece(PIECE, 1);
    }
    due("sixty", d.count(0), 60);
    due("FULL", d.piece(PIECE, 1), FULL);
    due("BAD", d.piece(PIECE - 1, 1), BAD);
    due("sixty still", d.count(0), 60);
    due("FULL and BAD are no FAILURES", d.count(1), 0);
    due("nor the latest", d.count(2), 0);
    for (int times = 1; times <= 100; times++) {
      due("FAILURES", d.get(times % 2 == 0 ? NONE : 0, 0), times % 2 == 0 ? NULL : CAST);
      due("so far", d.count(1), times);
      due("the latest", d.count(2), times % 2 == 0 ? 1 : 2);
    }
  }

  private static void countBad() {
    for (int what : new int[] {LOWEST, -1, 3, HIGHEST}) {
      refused("what " + what, Edges::mixed, d -> d.count(what), BAD);
      refused("what " + what, DepotTrays::new, d -> d.count(what), BAD);
    }
  }
}
