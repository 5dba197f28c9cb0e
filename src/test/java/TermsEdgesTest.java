/** The sentences ahead of the promises that name an edge. */
public final class TermsEdgesTest extends Edges {
  public static void main(String[] args) {
    said("An object is used for at most 512 calls after it has been made", TermsEdgesTest::lastCall);
    said("THINGS 0, 1, .. (60 at most) have a base and a DEPTH.", TermsEdgesTest::sixtyThings);
    said("PIECES have base 0 to 3, DEPTH 0, a WORTH (an int).", TermsEdgesTest::pieceKinds);
    said("ROWS have DEPTH 1 to 3 (of bases 5, 6: 1, 2) and 0 to 8 PLACES", TermsEdgesTest::rowKinds);
    said("each has a number (0 at first; of base 5 an int, of 6 a long)", TermsEdgesTest::numbersAtFirst);
    said("of all others a THING, or NONE (at first; -1).", TermsEdgesTest::placesAtFirst);
    said("A THING may lie in several PLACES.", TermsEdgesTest::severalPlaces);
    said("A base GOES FOR itself; VASE, COIN, CROWN for PIECE, too; CROWN for COIN; VASE and CROWN for FRAIL.",
        TermsEdgesTest::goingFor);
    said("A THING IS (b, d), if its DEPTH is d, and its base GOES FOR b.", TermsEdgesTest::kinds);
    said("NONE is none, and goes everywhere.", TermsEdgesTest::noneGoesEverywhere);
    said("FAILURES (-10 less it): 1 NULL, 2 CAST, 3 INDEX, 4 STORE, 5 SIZE.", TermsEdgesTest::failureNumbers);
    said("A call that FAILS changes nothing, but as told.", TermsEdgesTest::everyFailure);
    said("there is no such THING, DOOR", TermsEdgesTest::noSuchThing);
    said("BAD (there is no such THING, DOOR; a number is not as told), FULL, then FAILURES.",
        TermsEdgesTest::fullForMakersAlone);
    said("where NONE may stand it is told.", TermsEdgesTest::whereNoneMayStand);
    Due.end();
  }

  private static void said(String text, Runnable test) {
    Due.sentence("Terms", text, test);
  }

  private static void lastCall() {
    DepotTrays d = new DepotTrays();
    for (int call = 1; call < 512; call++) due("call " + call, d.get(NONE, 0), NULL);
    due("the 512th call", d.count(1), 511);
  }

  private static void sixtyThings() {
    Call[] makers = {
      d -> d.piece(CROWN, 5), d -> d.row(PIECE, 3, 8), d -> d.row(LONG, 1, 8), d -> d.grid(INT, 0, 8),
    };
    for (Call maker : makers) {
      DepotTrays d = new DepotTrays();
      for (int x = 0; x < 60; x++) due("the THING " + x, maker.answer(d), x);
      due("one more", maker.answer(d), FULL);
      due("count(0)", d.count(0), 60);
      due("about(59, 1)", d.about(59, 1), d.about(0, 1));
      due("about(60, 1)", d.about(60, 1), BAD);
      refused("a 61st", Edges::full, maker, FULL);
    }
    DepotTrays d = new DepotTrays();
    d.row(COIN, 2, 8);
    for (int x = 1; x < 60; x++) due("the copy " + x, d.copy(0), x);
    due("one copy more", d.copy(0), FULL);
  }

  private static void pieceKinds() {
    int[] worths = {LOWEST, -1, 0, 1, HIGHEST};
    DepotTrays d = new DepotTrays();
    for (int base = PIECE; base <= CROWN; base++) {
      int x = d.piece(base, 1);
      due("base", d.about(x, 0), base);
      due("DEPTH", d.about(x, 1), 0);
    }
    for (int worth : worths) due("WORTH " + worth, d.worth(d.piece(COIN, worth)), worth);
    refused("base -1", Edges::mixed, e -> e.piece(-1, 1), BAD);
    refused("base 4", Edges::mixed, e -> e.piece(4, 1), BAD);
  }

  private static void rowKinds() {
    for (int base = PIECE; base <= LONG; base++) {
      int b = base, deepest = base >= INT ? 2 : 3;
      DepotTrays d = new DepotTrays();
      for (int depth = 1; depth <= deepest; depth++) {
        due("no PLACES", d.about(d.row(base, depth, 0), 2), 0);
        due("eight PLACES", d.about(d.row(base, depth, 8), 2), 8);
        int e = depth;
        refused("nine PLACES", Edges::mixed, m -> m.row(b, e, 9), BAD);
        refused("-1 PLACES", Edges::mixed, m -> m.row(b, e, -1), SIZE);
      }
      refused("DEPTH 0", Edges::mixed, m -> m.row(b, 0, 1), BAD);
      refused("DEPTH one too many", Edges::mixed, m -> m.row(b, deepest + 1, 1), BAD);
    }
  }

  private static void numbersAtFirst() {
    for (int base = INT; base <= LONG; base++) {
      DepotTrays d = new DepotTrays();
      dueNumbers("a LEDGER", d, d.row(base, 1, 8), 0, 0, 0, 0, 0, 0, 0, 0);
      int grid = d.grid(base, 8, 8);
      for (int i = 0; i < 8; i++) dueNumbers("in a grid", d, d.get(grid, i), 0, 0, 0, 0, 0, 0, 0, 0);
    }
    DepotTrays d = new DepotTrays();
    int ints = d.row(INT, 1, 1), longs = d.row(LONG, 1, 1);
    long[] values = {LOWEST, HIGHEST, LOWEST - 1L, HIGHEST + 1L, Long.MIN_VALUE, Long.MAX_VALUE};
    for (long v : values) {
      d.set(ints, 0, v);
      d.set(longs, 0, v);
      due("an int", d.number(ints, 0), (int) v);
      due("a long", d.number(longs, 0), v);
    }
  }

  private static void placesAtFirst() {
    DepotTrays d = new DepotTrays();
    for (int x = of(PIECE, 1); x < KINDS; x++) {
      if (isLedger(x)) continue;
      int r = d.row(baseOf(x), depthOf(x), 8);
      duePlaces("a ROW", d, r, NONE, NONE, NONE, NONE, NONE, NONE, NONE, NONE);
    }
    int grid = d.grid(FRAIL, 8, 2);
    for (int i = 0; i < 8; i++) duePlaces("in a grid", d, d.get(grid, i), NONE, NONE);
  }

  private static void severalPlaces() {
    DepotTrays d = mixed();
    int other = d.row(CROWN, 1, 2);
    for (int i = 0; i < 8; i++) due("put", d.put(EIGHT, i, CROWN), 1);
    for (int i = 0; i < 2; i++) due("put", d.put(other, i, CROWN), 1);
    duePlaces("eight", d, EIGHT, 3, 3, 3, 3, 3, 3, 3, 3);
    duePlaces("two more", d, other, 3, 3);
    due("WORTH", d.worth(EIGHT), 8 * 140);
    due("frail", d.frail(EIGHT), 8);
  }

  private static void goingFor() {
    DepotTrays d = mixed();
    for (int base = PIECE; base <= LONG; base++) {
      for (int other = PIECE; other <= LONG; other++) {
        due(base + " for " + other, d.is(of(base, 1), other, 1), goesFor(base, other) ? 1 : 0);
      }
    }
  }

  private static void kinds() {
    for (int x = 0; x < KINDS; x++) {
      DepotTrays d = mixed();
      for (int base = PIECE; base <= LONG; base++) {
        for (int depth = 0; depth <= 3; depth++) {
          boolean yes = depth == depthOf(x) && goesFor(baseOf(x), base);
          int want = yes ? 1 : 0;
          due(x + " is (" + base + ", " + depth + ")", d.is(x, base, depth), isKind(base, depth) ? want : BAD);
        }
      }
    }
  }

  private static void noneGoesEverywhere() {
    DepotTrays d = mixed();
    for (int base = PIECE; base <= LONG; base++) {
      for (int depth = 0; depth <= 3; depth++) {
        if (!isKind(base, depth)) continue;
        due("is", d.is(NONE, base, depth), 0);
        due("door", d.door(3, base, depth), 1);
        due("through", d.through(NONE, 3, 1), 1);
      }
    }
    int empty = d.row(VASE, 2, 1);
    for (int r = of(PIECE, 1); r < KINDS; r++) {
      if (isLedger(r)) continue;
      due("put " + r, d.put(r, 1, NONE), 1);
      due("it is gone", d.get(r, 1), NONE);
      due("put again", d.put(r, 1, oneFor(r)), 1);
      due("carry to " + r, d.carry(empty, 0, r, 1, 1), 1);
      due("it is gone", d.get(r, 1), NONE);
    }
  }

  private static void failureNumbers() {
    Call[] calls = {
      d -> d.get(NONE, 0), d -> d.get(VASE, 0), d -> d.get(EIGHT, 8),
      d -> d.put(of(VASE, 1), 0, COIN), d -> d.row(PIECE, 1, -1),
    };
    DepotTrays d = mixed();
    int before = d.count(1);
    for (int failure = 1; failure <= 5; failure++) {
      due("FAILURE " + failure, calls[failure - 1].answer(d), -10 - failure);
      due("count(1)", d.count(1), before + failure);
      due("count(2)", d.count(2), failure);
    }
  }

  private static void everyFailure() {
    int ints = of(INT, 1), vases = of(VASE, 1);
    refused("row SIZE", Edges::mixed, d -> d.row(PIECE, 1, -1), SIZE);
    refused("grid SIZE", Edges::mixed, d -> d.grid(PIECE, 3, -1), SIZE);
    refused("put NULL", Edges::mixed, d -> d.put(NONE, 1, VASE), NULL);
    refused("put CAST", Edges::mixed, d -> d.put(vases, 1, EIGHT), CAST);
    refused("put INDEX", Edges::mixed, d -> d.put(vases, 3, VASE), INDEX);
    refused("put STORE", Edges::mixed, d -> d.put(vases, 1, CROWN), STORE);
    refused("get NULL", Edges::mixed, d -> d.get(NONE, 1), NULL);
    refused("get CAST", Edges::mixed, d -> d.get(ints, 1), CAST);
    refused("get INDEX", Edges::mixed, d -> d.get(vases, 3), INDEX);
    refused("set NULL", Edges::mixed, d -> d.set(NONE, 1, 9), NULL);
    refused("set CAST", Edges::mixed, d -> d.set(vases, 1, 9), CAST);
    refused("set INDEX", Edges::mixed, d -> d.set(ints, 3, 9), INDEX);
    refusedAt("through CAST", Edges::mixed, d -> d.through(COIN, 0, 8), CAST, 1);
    refused("copy NULL", Edges::mixed, d -> d.copy(NONE), NULL);
    refused("copy CAST", Edges::mixed, d -> d.copy(VASE), CAST);
    refused("carry NULL", Edges::mixed, d -> d.carry(NONE, 0, EIGHT, 0, 1), NULL);
    refused("carry STORE", Edges::mixed, d -> d.carry(EIGHT, 2, vases, 0, 3), STORE);
    refused("carry INDEX", Edges::mixed, d -> d.carry(EIGHT, 1, EIGHT, 0, 8), INDEX);
    refused("frail NULL", Edges::mixed, d -> d.frail(NONE), NULL);
    refused("frail CAST", Edges::mixed, d -> d.frail(ints), CAST);
  }

  private static void noSuchThing() {
    Made[] depots = {DepotTrays::new, Edges::mixed, Edges::full, Edges::cleared};
    int[] counts = {0, MIXED, 60, 0};
    for (int m = 0; m < depots.length; m++) {
      for (int x : new int[] {LOWEST, -3, -2, counts[m], 60, 61, HIGHEST}) noSuchThing(depots[m], x);
    }
    for (int k : new int[] {LOWEST, -1, 8, HIGHEST}) {
      refused("DOOR " + k, Edges::mixed, d -> d.door(k, PIECE, 0), BAD);
      refused("through " + k, Edges::mixed, d -> d.through(VASE, k, 0), BAD);
    }
  }

  private static void noSuchThing(Made made, int x) {
    refused("put into " + x, made, d -> d.put(x, 0, NONE), BAD);
    refused("put " + x, made, d -> d.put(NONE, 0, x), BAD);
    refused("get " + x, made, d -> d.get(x, 0), BAD);
    refused("set " + x, made, d -> d.set(x, 0, 1), BAD);
    refused("number " + x, made, d -> d.number(x, 0), 0);
    refused("is " + x, made, d -> d.is(x, PIECE, 0), BAD);
    refused("through " + x, made, d -> d.through(x, 0, 0), BAD);
    refused("worth " + x, made, d -> d.worth(x), 0);
    refused("copy " + x, made, d -> d.copy(x), BAD);
    refused("carry from " + x, made, d -> d.carry(x, 0, NONE, 0, 0), BAD);
    refused("carry to " + x, made, d -> d.carry(NONE, 0, x, 0, 0), BAD);
    refused("frail " + x, made, d -> d.frail(x), BAD);
    refused("about " + x, made, d -> d.about(x, 0), BAD);
    refused("bases " + x, made, d -> d.bases(x), BAD);
  }

  private static void fullForMakersAlone() {
    refused("piece", Edges::full, d -> d.piece(PIECE, 1), FULL);
    refused("row", Edges::full, d -> d.row(PIECE, 1, 0), FULL);
    refused("grid", Edges::full, d -> d.grid(PIECE, 0, 0), FULL);
    refused("copy", Edges::full, d -> d.copy(NO_PLACES), FULL);
    DepotTrays d = full();
    due("put", d.put(EIGHT, 7, 59), 1);
    due("get", d.get(EIGHT, 7), 59);
    due("set", d.set(of(INT, 1), 2, 5), 1);
    due("number", d.number(of(INT, 1), 2), 5);
    due("is", d.is(59, PIECE, 0), 1);
    due("door", d.door(7, PIECE, 0), 1);
    due("through", d.through(59, 7, 1), 1);
    due("lastDoor", d.lastDoor(), NONE);
    due("worth", d.worth(59), 59);
    due("carry", d.carry(EIGHT, 7, of(PIECE, 1), 2, 1), 1);
    due("frail", d.frail(59), 0);
    due("about", d.about(59, 2), NONE);
    due("bases", d.bases(59), 1);
    due("count", d.count(0), 60);
    due("clear", d.clear(), 60);
  }

  private static void whereNoneMayStand() {
    refused("about 0", Edges::mixed, d -> d.about(NONE, 0), BAD);
    refused("about 2", Edges::mixed, d -> d.about(NONE, 2), BAD);
    refused("bases", Edges::mixed, d -> d.bases(NONE), BAD);
    refused("worth", Edges::mixed, d -> d.worth(NONE), 0);
    refused("number", Edges::mixed, d -> d.number(NONE, 0), 0);
    refused("is", Edges::mixed, d -> d.is(NONE, PIECE, 0), 0);
    refused("put into", Edges::mixed, d -> d.put(NONE, 0, NONE), NULL);
    refused("get", Edges::mixed, d -> d.get(NONE, 0), NULL);
    refused("set", Edges::mixed, d -> d.set(NONE, 0, 1), NULL);
    refused("copy", Edges::mixed, d -> d.copy(NONE), NULL);
    refused("carry", Edges::mixed, d -> d.carry(NONE, 0, NONE, 0, 0), NULL);
    refused("frail", Edges::mixed, d -> d.frail(NONE), NULL);
    due("put it", mixed().put(EIGHT, 0, NONE), 1);
    due("through", mixed().through(NONE, 0, 8), 1);
  }
}
