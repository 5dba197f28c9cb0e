/** The sentences of promises 1 to 4, 14 and 20 that name an edge: what makes THINGS, and clear(). */
public final class MakeEdgesTest extends Edges {
  public static void main(String[] args) {
    Due.sentence("1", "No THINGS.", MakeEdgesTest::newObject);

    Due.sentence("2", "A PIECE of a base 0 to 3: its number.", MakeEdgesTest::pieceBases);
    Due.sentence("2", "BAD; FULL.", MakeEdgesTest::pieceFull);

    Due.sentence("3", "A ROW of a base, a DEPTH, n PLACES: its number.", MakeEdgesTest::rowTaken);
    Due.sentence("3", "BAD: base, DEPTH, n above 8", MakeEdgesTest::rowBad);
    Due.sentence("3", "FULL", MakeEdgesTest::rowFull);
    Due.sentence("3", "FAILURE 5: n below 0.", MakeEdgesTest::rowSize);

    Due.sentence("4", "A ROW of DEPTH 2 (any base) of n PLACES, in each a new ROW of DEPTH 1 with m PLACES",
        MakeEdgesTest::gridTaken);
    Due.sentence("4", "the number of the first; those in it have the next ones, in order.",
        MakeEdgesTest::gridNumbers);
    Due.sentence("4", "BAD: base, n or m above 8", MakeEdgesTest::gridBad);
    Due.sentence("4", "FULL: there would be more than 60", MakeEdgesTest::gridFull);
    Due.sentence("4", "(by n below 0: as if 0)", MakeEdgesTest::gridFullBelow0);
    Due.sentence("4", "FAILURE 5: n or m below 0.", MakeEdgesTest::gridSize);

    Due.sentence("14", "A ROW more of the base, DEPTH of one, with the same in its PLACES: its number.",
        MakeEdgesTest::copyTaken);
    Due.sentence("14", "BAD (x may be NONE)", MakeEdgesTest::copyBad);
    Due.sentence("14", "FULL", MakeEdgesTest::copyFull);
    Due.sentence("14", "FAILURES: NULL; CAST: it is a PIECE.", MakeEdgesTest::copyFails);

    Due.sentence("20", "No THINGS", MakeEdgesTest::clearThings);
    Due.sentence("20", "DOORS as at first", MakeEdgesTest::clearDoors);
    Due.sentence("20", "(FAILURES so far stay)", MakeEdgesTest::clearFailures);
    Due.sentence("20", "how many THINGS there were.", MakeEdgesTest::clearTells);
    Due.end();
  }

  private static void newObject() {
    DepotTrays d = new DepotTrays();
    for (int what = 0; what <= 2; what++) due("count " + what, d.count(what), 0);
    due("lastDoor", d.lastDoor(), NONE);
    for (int x : new int[] {NONE, 0, 1, 59}) due("about " + x, d.about(x, 0), BAD);
    due("doors", d.through(d.piece(PIECE, 1), 0, 8), 1);
    due("another object", new DepotTrays().count(0), 0);
    due("the first number", new DepotTrays().row(LONG, 2, 8), 0);
    due("clear", new DepotTrays().clear(), 0);
  }

  private static void pieceBases() {
    DepotTrays d = new DepotTrays();
    for (int base = 0; base <= 3; base++) {
      due("base " + base, d.piece(base, LOWEST), base);
      due("its base", d.about(base, 0), base);
      due("its DEPTH", d.about(base, 1), 0);
    }
    for (int base : new int[] {LOWEST, -2, -1, 4, 5, 6, 7, HIGHEST}) {
      refused("base " + base, Edges::mixed, e -> e.piece(base, 1), BAD);
      refused("base " + base + " at first", DepotTrays::new, e -> e.piece(base, 1), BAD);
    }
  }

  private static void pieceFull() {
    for (int base = 0; base <= 3; base++) {
      int b = base;
      due("the sixtieth", filled(59).piece(base, 1), 59);
      refused("one more", Edges::full, d -> d.piece(b, 1), FULL);
    }
    refused("BAD first", Edges::full, d -> d.piece(-1, 1), BAD);
    refused("BAD first", Edges::full, d -> d.piece(4, 1), BAD);
  }

  private static void rowTaken() {
    for (int x = of(PIECE, 1); x < KINDS; x++) {
      for (int n : new int[] {0, 1, 7, 8}) {
        DepotTrays d = filled(59);
        due("its number", d.row(baseOf(x), depthOf(x), n), 59);
        due("its base", d.about(59, 0), baseOf(x));
        due("its DEPTH", d.about(59, 1), depthOf(x));
        due("its PLACES", d.about(59, 2), n);
      }
    }
  }

  private static void rowBad() {
    for (int base : new int[] {LOWEST, -1, 7, HIGHEST}) {
      refused("base " + base, Edges::mixed, d -> d.row(base, 1, 1), BAD);
    }
    for (int base = PIECE; base <= LONG; base++) {
      int b = base;
      for (int depth : new int[] {LOWEST, -1, 0, base >= INT ? 3 : 4, HIGHEST}) {
        refused("DEPTH " + depth + " of " + base, Edges::mixed, d -> d.row(b, depth, 1), BAD);
        refused("and n -1", Edges::mixed, d -> d.row(b, depth, -1), BAD);
        refused("and full", Edges::full, d -> d.row(b, depth, 1), BAD);
        refused("and both", Edges::full, d -> d.row(b, depth, -1), BAD);
      }
      refused("n 9 of " + base, Edges::mixed, d -> d.row(b, 1, 9), BAD);
      refused("n highest of " + base, Edges::mixed, d -> d.row(b, 2, HIGHEST), BAD);
      refused("n 9 and full", Edges::full, d -> d.row(b, 1, 9), BAD);
    }
    refused("base 7 and n -1", Edges::mixed, d -> d.row(7, 1, -1), BAD);
    refused("base -1 and full", Edges::full, d -> d.row(-1, 1, 1), BAD);
  }

  private static void rowFull() {
    for (int x = of(PIECE, 1); x < KINDS; x++) {
      int base = baseOf(x), depth = depthOf(x);
      due("the sixtieth", filled(59).row(base, depth, 8), 59);
      refused("one more", Edges::full, d -> d.row(base, depth, 8), FULL);
      refused("one more, of no PLACES", Edges::full, d -> d.row(base, depth, 0), FULL);
      refused("ahead of FAILURE 5", Edges::full, d -> d.row(base, depth, -1), FULL);
    }
  }

  private static void rowSize() {
    for (int x = of(PIECE, 1); x < KINDS; x++) {
      int base = baseOf(x), depth = depthOf(x);
      due("n 0", new DepotTrays().row(base, depth, 0), 0);
      refused("n -1", DepotTrays::new, d -> d.row(base, depth, -1), SIZE);
      refused("n lowest", Edges::mixed, d -> d.row(base, depth, LOWEST), SIZE);
      refused("n -1 with room for one", () -> filled(59), d -> d.row(base, depth, -1), SIZE);
    }
  }

  private static void gridTaken() {
    for (int base = PIECE; base <= LONG; base++) {
      for (int n : new int[] {0, 1, 8}) {
        for (int m : new int[] {0, 1, 8}) {
          DepotTrays d = new DepotTrays();
          due("grid", d.grid(base, n, m), 0);
          due("how many", d.count(0), n + 1);
          due("its base", d.about(0, 0), base);
          due("its DEPTH", d.about(0, 1), 2);
          due("its PLACES", d.about(0, 2), n);
          for (int x = 1; x <= n; x++) {
            due("inner base", d.about(x, 0), base);
            due("inner DEPTH", d.about(x, 1), 1);
            due("inner PLACES", d.about(x, 2), m);
          }
        }
      }
    }
  }

  private static void gridNumbers() {
    DepotTrays d = mixed();
    due("the first", d.grid(COIN, 8, 1), MIXED);
    duePlaces("the next ones", d, MIXED, 26, 27, 28, 29, 30, 31, 32, 33);
    due("the number after them", d.piece(PIECE, 1), 34);
    due("each is a new one", d.put(26, 0, CROWN), 1);
    due("each is a new one", d.get(27, 0), NONE);
  }

  private static void gridBad() {
    for (int base : new int[] {LOWEST, -1, 7, HIGHEST}) {
      refused("base " + base, Edges::mixed, d -> d.grid(base, 1, 1), BAD);
      refused("and n -1", Edges::mixed, d -> d.grid(base, -1, 1), BAD);
      refused("and m -1", Edges::mixed, d -> d.grid(base, 1, -1), BAD);
      refused("and full", Edges::full, d -> d.grid(base, 1, 1), BAD);
    }
    for (int base = PIECE; base <= LONG; base++) {
      int b = base;
      for (int many : new int[] {9, HIGHEST}) {
        refused("n " + many, Edges::mixed, d -> d.grid(b, many, 1), BAD);
        refused("m " + many, Edges::mixed, d -> d.grid(b, 1, many), BAD);
        refused("both", Edges::mixed, d -> d.grid(b, many, many), BAD);
        refused("m with n 0", Edges::mixed, d -> d.grid(b, 0, many), BAD);
        refused("n, and m -1", Edges::mixed, d -> d.grid(b, many, -1), BAD);
        refused("m, and n -1", Edges::mixed, d -> d.grid(b, -1, many), BAD);
        refused("n and full", Edges::full, d -> d.grid(b, many, 1), BAD);
        refused("m and full", Edges::full, d -> d.grid(b, 1, many), BAD);
        refused("m, n -1 and full", Edges::full, d -> d.grid(b, -1, many), BAD);
      }
    }
  }

  private static void gridFull() {
    for (int size = 0; size <= 8; size++) {
      int n = size;
      DepotTrays d = filled(59 - n);
      due("up to 60", d.grid(VASE, n, 8), 59 - n);
      due("sixty", d.count(0), 60);
      refused("61", () -> filled(60 - n), e -> e.grid(VASE, n, 8), FULL);
      refused("61 ahead of FAILURE 5", () -> filled(60 - n), e -> e.grid(VASE, n, -1), FULL);
    }
    refused("68", Edges::full, d -> d.grid(LONG, 8, 0), FULL);
  }

  private static void gridFullBelow0() {
    for (int n : new int[] {-1, -9, LOWEST}) {
      refused("with room for one", () -> filled(59), d -> d.grid(COIN, n, 1), SIZE);
      refused("with no room", Edges::full, d -> d.grid(COIN, n, 1), FULL);
      refused("with no room, m -1", Edges::full, d -> d.grid(COIN, n, -1), FULL);
    }
  }

  private static void gridSize() {
    for (int base = PIECE; base <= LONG; base++) {
      int b = base;
      for (int below : new int[] {-1, LOWEST}) {
        refused("n " + below, DepotTrays::new, d -> d.grid(b, below, 1), SIZE);
        refused("m " + below, DepotTrays::new, d -> d.grid(b, 1, below), SIZE);
        refused("m with n 0", Edges::mixed, d -> d.grid(b, 0, below), SIZE);
        refused("n with m 0", Edges::mixed, d -> d.grid(b, below, 0), SIZE);
        refused("both", Edges::mixed, d -> d.grid(b, below, below), SIZE);
        refused("m where 60 would be", () -> filled(51), d -> d.grid(b, 8, below), SIZE);
      }
    }
  }

  private static void copyTaken() {
    DepotTrays d = mixed();
    for (int x = of(PIECE, 1); x < MIXED; x++) {
      int y = d.copy(x);
      due("its number", y, MIXED + x - of(PIECE, 1));
      for (int what = 0; what <= 2; what++) due("about " + what, d.about(y, what), d.about(x, what));
      boolean ledger = x == of(INT, 1) || x == of(LONG, 1);
      for (int i = 0; i < d.about(x, 2); i++) {
        if (ledger) due("number " + i, d.number(y, i), d.number(x, i));
        else due("PLACE " + i, d.get(y, i), d.get(x, i));
      }
    }
    d = mixed();
    due("a copy", d.copy(of(LONG, 1)), MIXED);
    due("set", d.set(MIXED, 0, 1), 1);
    dueNumbers("the first is as it was", d, of(LONG, 1), Long.MAX_VALUE, 0, -3);
    due("a copy", d.copy(EIGHT), MIXED + 1);
    due("put", d.put(EIGHT, 7, NONE), 1);
    duePlaces("the copy is as it was", d, MIXED + 1, 0, 1, 2, 3, 0, 1, 2, 3);
    due("a copy of a copy", d.copy(MIXED + 1), MIXED + 2);
    duePlaces("it has the same", d, MIXED + 2, 0, 1, 2, 3, 0, 1, 2, 3);
  }

  private static void copyBad() {
    for (int x : new int[] {LOWEST, -2, MIXED, HIGHEST}) {
      refused("copy " + x, Edges::mixed, d -> d.copy(x), BAD);
    }
    due("the last THING", mixed().copy(EIGHT), MIXED);
    refused("-2 and full", Edges::full, d -> d.copy(-2), BAD);
    refused("60 and full", Edges::full, d -> d.copy(60), BAD);
    refused("NONE is not BAD", Edges::mixed, d -> d.copy(NONE), NULL);
  }

  private static void copyFull() {
    for (int x = of(PIECE, 1); x < MIXED; x++) {
      int r = x;
      due("the sixtieth", filled(59).copy(r), 59);
      refused("one more", Edges::full, d -> d.copy(r), FULL);
    }
    refused("ahead of NULL", Edges::full, d -> d.copy(NONE), FULL);
    refused("ahead of CAST", Edges::full, d -> d.copy(VASE), FULL);
  }

  private static void copyFails() {
    refused("NULL", () -> filled(59), d -> d.copy(NONE), NULL);
    refused("NULL at first", DepotTrays::new, d -> d.copy(NONE), NULL);
    for (int x = 0; x <= 3; x++) {
      int piece = x;
      refused("CAST", () -> filled(59), d -> d.copy(piece), CAST);
    }
  }

  private static void clearThings() {
    DepotTrays d = full();
    for (int i = 0; i < 8; i++) d.put(EIGHT, i, CROWN);
    d.clear();
    due("count", d.count(0), 0);
    for (int x : new int[] {0, 1, 24, 59}) {
      due("about " + x, d.about(x, 0), BAD);
      due("worth " + x, d.worth(x), 0);
    }
    for (int x = 0; x < 60; x++) {
      boolean ledger = x >= 30;
      due("a new one", d.row(ledger ? LONG : PIECE, 1, x % 2 == 0 ? 8 : 3), x);
    }
    for (int x = 0; x < 60; x++) due("nothing in it", d.worth(x), 0);
    for (int x = 0; x < 30; x++) due("nothing FRAIL in it", d.frail(x), 0);
    duePlaces("where PLACES were", d, EIGHT, NONE, NONE, NONE, NONE, NONE, NONE, NONE, NONE);
    due("FULL again", d.piece(PIECE, 1), FULL);
    d = mixed();
    d.clear();
    due("LEDGERS were at 19, 20", d.grid(FRAIL, 8, 8) + d.grid(FRAIL, 8, 8) + d.grid(FRAIL, 8, 8), 27);
    duePlaces("where numbers were", d, 19, NONE, NONE, NONE, NONE, NONE, NONE, NONE, NONE);
    duePlaces("where numbers were", d, 20, NONE, NONE, NONE, NONE, NONE, NONE, NONE, NONE);
  }

  private static void clearDoors() {
    Due.same("all DOORS", seen(cleared()).doors(), seen(new DepotTrays()).doors());
    DepotTrays d = new DepotTrays();
    for (int k = 0; k < 8; k++) d.door(k, LONG, 2);
    d.clear();
    due("a PIECE", d.through(d.piece(PIECE, 1), 0, 8), 1);
    int ledgers = d.row(LONG, 2, 1);
    for (int k = 0; k < 8; k++) due("DOOR " + k, d.through(ledgers, k, 1), CAST);
  }

  private static void clearFailures() {
    Seen was = seen(mixed()), now = seen(cleared());
    due("count(1)", now.failures(), was.failures());
    due("count(2)", now.latest(), was.latest());
    due("THE LAST DOOR is by the latest through()", now.lastDoor(), was.lastDoor());
    DepotTrays d = cleared();
    due("one more", d.get(NONE, 0), NULL);
    due("count(1)", d.count(1), was.failures() + 1);
    due("none at first, none now", new DepotTrays().clear(), 0);
  }

  private static void clearTells() {
    DepotTrays d = new DepotTrays();
    due("none", d.clear(), 0);
    d.piece(VASE, 1);
    due("one", d.clear(), 1);
    due("none again", d.clear(), 0);
    d = full();
    due("sixty", d.clear(), 60);
    due("none again", d.clear(), 0);
  }
}
