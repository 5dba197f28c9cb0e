/** The sentences on DOORS and of promises 9 to 12 that name an edge: is, door, through, lastDoor. */
public final class DoorEdgesTest extends Edges {
  public static void main(String[] args) {
    Due.sentence("DOORS", "A DOOR 0 to 7 is for a base and a DEPTH (0, 0 at first)", DoorEdgesTest::doorsAtFirst);
    Due.sentence("DOORS", "what IS that goes through, and NONE; else CAST.", DoorEdgesTest::whatGoes);

    Due.sentence("9", "Whether a THING (NONE: not) IS (base, depth 0 to 3): 1, 0.", DoorEdgesTest::isTaken);
    Due.sentence("9", "BAD", DoorEdgesTest::isBad);
    Due.sentence("9", "also a base of 5, 6 with a DEPTH other than 1, 2.", DoorEdgesTest::isBadNumbers);

    Due.sentence("10", "A DOOR is for (base, depth), as is(): 1.", DoorEdgesTest::doorTaken);
    Due.sentence("10", "BAD.", DoorEdgesTest::doorBad);

    Due.sentence("11", "A THING (or NONE) goes through n DOORS (0 to 8 less k) from k on: 1",
        DoorEdgesTest::throughTaken);
    Due.sentence("11", "FAILURE 2: the first that it did not go through is THE LAST DOOR",
        DoorEdgesTest::throughFails);
    Due.sentence("11", "else that is NONE.", DoorEdgesTest::throughWell);
    Due.sentence("11", "BAD: x, k, n.", DoorEdgesTest::throughBad);

    Due.sentence("12", "THE LAST DOOR by the latest through() that was not BAD", DoorEdgesTest::lastDoor);
    Due.sentence("12", "NONE before.", DoorEdgesTest::lastDoorBefore);
    Due.end();
  }

  private static final int[][] WRONG_KINDS = {
    {LOWEST, 1}, {-1, 1}, {7, 1}, {HIGHEST, 1},
    {PIECE, LOWEST}, {PIECE, -1}, {PIECE, 4}, {PIECE, HIGHEST},
    {VASE, -1}, {VASE, 4}, {COIN, -1}, {COIN, 4}, {CROWN, -1}, {CROWN, 4}, {FRAIL, -1}, {FRAIL, 4},
    {-1, -1}, {7, 4}, {-1, 0}, {7, 3},
  };

  private static final int[][] WRONG_NUMBER_KINDS = {
    {INT, LOWEST}, {INT, -1}, {INT, 0}, {INT, 3}, {INT, 4}, {INT, HIGHEST},
    {LONG, LOWEST}, {LONG, -1}, {LONG, 0}, {LONG, 3}, {LONG, 4}, {LONG, HIGHEST},
  };

  private static void doorsAtFirst() {
    for (int k = 0; k < 8; k++) {
      DepotTrays d = new DepotTrays();
      for (int base = PIECE; base <= CROWN; base++) due("a PIECE", d.through(d.piece(base, 1), k, 1), 1);
      for (int base = PIECE; base <= LONG; base++) {
        due("a ROW of DEPTH 1", d.through(d.row(base, 1, 1), k, 1), CAST);
        due("a ROW of DEPTH 2", d.through(d.row(base, 2, 1), k, 1), CAST);
      }
      due("DOOR " + k, d.door(k, FRAIL, 3), 1);
      due("a PIECE no more", d.through(VASE, k, 1), CAST);
    }
    refused("DOOR -1", Edges::mixed, d -> d.door(-1, PIECE, 0), BAD);
    refused("DOOR 8", Edges::mixed, d -> d.door(8, PIECE, 0), BAD);
  }

  private static void whatGoes() {
    for (int base = PIECE; base <= LONG; base++) {
      for (int depth = 0; depth <= 3; depth++) {
        if (!isKind(base, depth)) continue;
        int b = base, e = depth;
        Made made = () -> {
          DepotTrays d = mixed();
          due("door", d.door(4, b, e), 1);
          return d;
        };
        DepotTrays d = made.depot();
        due("NONE", d.through(NONE, 4, 1), 1);
        for (int x = 0; x < KINDS; x++) {
          int thing = x;
          boolean goes = depthOf(x) == depth && goesFor(baseOf(x), base);
          if (goes) due(x + " goes", d.through(x, 4, 1), 1);
          else refusedAt(x + " does not go", made, f -> f.through(thing, 4, 1), CAST, 4);
        }
      }
    }
  }

  private static void isTaken() {
    for (int x = 0; x < KINDS; x++) {
      DepotTrays d = mixed();
      for (int base = PIECE; base <= FRAIL; base++) {
        for (int depth = 0; depth <= 3; depth++) {
          boolean yes = depth == depthOf(x) && goesFor(baseOf(x), base);
          due(x + " is (" + base + ", " + depth + ")", d.is(x, base, depth), yes ? 1 : 0);
        }
      }
    }
    for (int base = PIECE; base <= LONG; base++) {
      for (int depth = base >= INT ? 1 : 0; depth <= (base >= INT ? 2 : 3); depth++) {
        int b = base, e = depth;
        refused("NONE is not", Edges::mixed, d -> d.is(NONE, b, e), 0);
        refused("NONE with no THINGS", DepotTrays::new, d -> d.is(NONE, b, e), 0);
      }
    }
    due("the last THING", full().is(59, PIECE, 0), 1);
  }

  private static void isBad() {
    for (int[] kind : WRONG_KINDS) {
      refused("a THING", Edges::mixed, d -> d.is(VASE, kind[0], kind[1]), BAD);
      refused("a ROW", Edges::mixed, d -> d.is(EIGHT, kind[0], kind[1]), BAD);
      refused("NONE", Edges::mixed, d -> d.is(NONE, kind[0], kind[1]), BAD);
    }
    for (int no : new int[] {LOWEST, -2, MIXED, HIGHEST}) {
      refused("x " + no, Edges::mixed, d -> d.is(no, PIECE, 0), BAD);
      refused("x and the base", Edges::mixed, d -> d.is(no, 7, 0), BAD);
    }
    refused("x 60", Edges::full, d -> d.is(60, PIECE, 0), BAD);
  }

  private static void isBadNumbers() {
    for (int[] kind : WRONG_NUMBER_KINDS) {
      for (int x : new int[] {NONE, VASE, EIGHT, of(INT, 1), of(LONG, 2)}) {
        refused("(" + kind[0] + ", " + kind[1] + ")", Edges::mixed, d -> d.is(x, kind[0], kind[1]), BAD);
      }
    }
    for (int base = INT; base <= LONG; base++) {
      for (int depth = 1; depth <= 2; depth++) {
        DepotTrays d = mixed();
        for (int x = 0; x < KINDS; x++) due("is", d.is(x, base, depth), x == of(base, depth) ? 1 : 0);
      }
    }
  }

  private static void doorTaken() {
    for (int k = 0; k < 8; k++) {
      for (int base = PIECE; base <= LONG; base++) {
        for (int depth = 0; depth <= 3; depth++) {
          if (!isKind(base, depth)) continue;
          DepotTrays d = mixed();
          due("door " + k, d.door(k, base, depth), 1);
          for (int x = 0; x < KINDS; x++) {
            due("as is()", d.through(x, k, 1) == 1 ? 1 : 0, d.is(x, base, depth));
          }
        }
      }
    }
    DepotTrays d = mixed();
    String was = seen(mixed()).doors();
    due("as it was already", d.door(7, INT, 1), 1);
    Due.same("the others", seen(d).doors(), was);
  }

  private static void doorBad() {
    for (int k = 0; k < 8; k++) {
      int door = k;
      for (int[] kind : WRONG_KINDS) refused("kind", Edges::mixed, d -> d.door(door, kind[0], kind[1]), BAD);
      for (int[] kind : WRONG_NUMBER_KINDS) refused("kind", Edges::mixed, d -> d.door(door, kind[0], kind[1]), BAD);
    }
    for (int k : new int[] {LOWEST, -2, -1, 8, 9, HIGHEST}) {
      refused("k " + k, Edges::mixed, d -> d.door(k, COIN, 2), BAD);
      refused("k and the base", Edges::mixed, d -> d.door(k, 7, 2), BAD);
      refused("k at first", DepotTrays::new, d -> d.door(k, COIN, 2), BAD);
    }
  }

  private static void throughTaken() {
    for (int k = 0; k < 8; k++) {
      for (int n = 0; n <= 8 - k; n++) {
        int first = k, many = n;
        due("from " + k + " on " + n, withPiece().through(0, k, n), 1);
        due("NONE from " + k + " on " + n, mixed().through(NONE, k, n), 1);
        refused("x at DOORS at first", () -> lastDoorNone(withPiece()), d -> d.through(0, first, many), 1);
      }
      int first = k;
      refused("one too many from " + k, Edges::mixed, d -> d.through(NONE, first, 9 - first), BAD);
      refused("-1 from " + k, Edges::mixed, d -> d.through(NONE, first, -1), BAD);
      due("none, of what goes through none", mixed().through(of(VASE, 2), k, 0), 1);
    }
    due("the last THING", full().through(59, 0, 1), 1);
  }

  private static DepotTrays withPiece() {
    DepotTrays d = new DepotTrays();
    due("piece", d.piece(CROWN, 1), 0);
    return d;
  }

  private static DepotTrays lastDoorNone(DepotTrays d) {
    due("through none", d.through(NONE, 0, 0), 1);
    return d;
  }

  private static void throughFails() {
    for (int closed = 0; closed < 8; closed++) {
      int c = closed;
      Made made = () -> {
        DepotTrays d = mixed();
        for (int k = 0; k < 8; k++) due("door", d.door(k, k < c ? FRAIL : COIN, 0), 1);
        return d;
      };
      for (int k = 0; k < 8; k++) {
        for (int n = 0; n <= 8 - k; n++) {
          int first = k, many = n;
          boolean goes = k + n <= closed || n == 0;
          if (goes) due("a VASE goes", made.depot().through(VASE, k, n), 1);
          else refusedAt("a VASE", made, d -> d.through(VASE, first, many), CAST, Math.max(k, closed));
        }
      }
      due("a CROWN goes through all", made.depot().through(CROWN, 0, 8), 1);
    }
  }

  private static void throughWell() {
    DepotTrays d = mixed();
    due("door 5 at first", d.lastDoor(), 5);
    due("a PIECE", d.through(PIECE, 0, 1), 1);
    due("NONE", d.lastDoor(), NONE);
    due("it FAILS", d.through(PIECE, 0, 2), CAST);
    due("door 1", d.lastDoor(), 1);
    due("through no DOORS", d.through(PIECE, 1, 0), 1);
    due("NONE", d.lastDoor(), NONE);
    due("it FAILS at the last", d.through(PIECE, 7, 1), CAST);
    due("door 7", d.lastDoor(), 7);
    due("NONE goes", d.through(NONE, 0, 8), 1);
    due("NONE", d.lastDoor(), NONE);
    due("it FAILS at the first", d.through(EIGHT, 0, 8), CAST);
    due("door 0", d.lastDoor(), 0);
    due("count(1)", d.count(1), 5);
  }

  private static void throughBad() {
    for (int no : new int[] {LOWEST, -2, MIXED, HIGHEST}) {
      refused("x " + no, Edges::mixed, d -> d.through(no, 0, 1), BAD);
      refused("x through no DOORS", Edges::mixed, d -> d.through(no, 0, 0), BAD);
    }
    for (int k : new int[] {LOWEST, -1, 8, 9, HIGHEST}) {
      for (int n : new int[] {LOWEST, -1, 0, 1, HIGHEST}) {
        refused("k " + k + ", n " + n, Edges::mixed, d -> d.through(PIECE, k, n), BAD);
        refused("ahead of CAST", Edges::mixed, d -> d.through(EIGHT, k, n), BAD);
      }
    }
    for (int k = 0; k < 8; k++) {
      int first = k;
      for (int n : new int[] {LOWEST, -1, 9 - k, 9, HIGHEST}) {
        refused("n " + n + " from " + k, Edges::mixed, d -> d.through(PIECE, first, n), BAD);
        refused("ahead of CAST", Edges::mixed, d -> d.through(EIGHT, first, n), BAD);
      }
    }
  }

  private static void lastDoor() {
    DepotTrays d = mixed();
    due("it FAILS", d.through(EIGHT, 3, 5), CAST);
    due("door 3", d.lastDoor(), 3);
    due("asked twice", d.lastDoor(), 3);
    for (int[] bad : new int[][] {{99, 0, 1}, {EIGHT, 8, 0}, {EIGHT, -1, 1}, {EIGHT, 0, 9}, {NONE, 0, -1}}) {
      due("BAD", d.through(bad[0], bad[1], bad[2]), BAD);
      due("door 3 still", d.lastDoor(), 3);
    }
    due("another FAILURE", d.frail(of(INT, 1)), CAST);
    due("a DOOR changes", d.door(3, PIECE, 1), 1);
    due("clear", d.clear(), MIXED);
    due("door 3 still", d.lastDoor(), 3);
    due("NONE", d.through(NONE, 0, 8), 1);
    due("none now", d.lastDoor(), NONE);
  }

  private static void lastDoorBefore() {
    DepotTrays d = new DepotTrays();
    due("at first", d.lastDoor(), NONE);
    due("BAD", d.through(0, 0, 1), BAD);
    due("NONE still", d.lastDoor(), NONE);
    due("door", d.door(0, CROWN, 0), 1);
    due("a FAILURE", d.get(NONE, 0), NULL);
    due("NONE still", d.lastDoor(), NONE);
  }
}
