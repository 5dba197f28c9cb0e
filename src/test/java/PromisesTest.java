/** One method for each promise of the document, with its edges and its wrong inputs. */
public final class PromisesTest {
  private static final int NONE = DepotTrays.NONE, BAD = DepotTrays.BAD, FULL = DepotTrays.FULL;
  private static final int NULL = -11, CAST = -12, INDEX = -13, STORE = -14, SIZE = -15;
  private static final int PIECE = 0, VASE = 1, COIN = 2, CROWN = 3, FRAIL = 4, INT = 5, LONG = 6;
  private static final int LOWEST = Integer.MIN_VALUE, HIGHEST = Integer.MAX_VALUE;

  public static void main(String[] args) {
    promise1NewObject();
    promise2Piece();
    promise3Row();
    theSixtiethRow();
    promise4Grid();
    promise4GridFull();
    promise5PutByBases();
    promise5PutByDepths();
    promise5PutRefusals();
    promise6Get();
    promise7Set();
    promise8Number();
    promise9Is();
    promise10Door();
    promise11Through();
    promise12LastDoor();
    promise13Worth();
    promise14Copy();
    promise15CarryRefusals();
    promise15CarryPlaces();
    promise15CarryLedgers();
    promise16Frail();
    promise17About();
    promise18Bases();
    promise19Count();
    promise20Clear();
    Due.end();
  }

  private static void due(String call, long got, long want) {
    Due.due(call, got, want);
  }

  /** An object that has the pieces 0 to 3, each of the base of its number. */
  private static DepotTrays withPieces() {
    DepotTrays d = new DepotTrays();
    for (int base = PIECE; base <= CROWN; base++) {
      due("the piece of base " + base, d.piece(base, 10 * (base + 1)), base);
    }
    return d;
  }

  private static void fill(DepotTrays d, int upTo) {
    for (int x = d.count(0); x < upTo; x++) {
      due("piece up to " + upTo, d.piece(PIECE, 1), x);
    }
  }

  private static void dueFailures(String when, DepotTrays d, int howMany, int latest) {
    due("1 count(1) " + when, d.count(1), howMany);
    due("1 count(2) " + when, d.count(2), latest);
  }

  private static void duePlaces(String when, DepotTrays d, int r, int... want) {
    due(when + ": how many places", d.about(r, 2), want.length);
    for (int i = 0; i < want.length; i++) {
      due(when + ": get(" + r + ", " + i + ")", d.get(r, i), want[i]);
    }
  }

  private static void dueNumbers(String when, DepotTrays d, int r, long... want) {
    due(when + ": how many places", d.about(r, 2), want.length);
    for (int i = 0; i < want.length; i++) {
      due(when + ": number(" + r + ", " + i + ")", d.number(r, i), want[i]);
    }
  }

  private static void promise1NewObject() {
    DepotTrays d = new DepotTrays();
    due("1 count(0)", d.count(0), 0);
    dueFailures("of a new object", d, 0, 0);
    due("1 about(0, 0)", d.about(0, 0), BAD);
    due("1 lastDoor", d.lastDoor(), NONE);
    due("1 clear", d.clear(), 0);
    DepotTrays other = new DepotTrays();
    d.piece(PIECE, 1);
    due("1 objects share nothing", other.count(0), 0);
  }

  private static void promise2Piece() {
    DepotTrays d = withPieces();
    for (int base : new int[] {-1, FRAIL, INT, LONG, 7, LOWEST, HIGHEST}) {
      due("2 piece of base " + base, d.piece(base, 1), BAD);
    }
    due("2 BAD adds none", d.count(0), 4);
    due("2 lowest worth", d.worth(d.piece(PIECE, LOWEST)), LOWEST);
    fill(d, 60);
    due("2 FULL", d.piece(PIECE, 1), FULL);
    due("2 BAD ahead of FULL", d.piece(FRAIL, 1), BAD);
    due("2 count(0)", d.count(0), 60);
    dueFailures("BAD and FULL are none", d, 0, 0);
  }

  private static void promise3Row() {
    DepotTrays d = new DepotTrays();
    int next = 0;
    for (int base = PIECE; base <= LONG; base++) {
      for (int depth = -1; depth <= 4; depth++) {
        boolean fine = depth >= 1 && depth <= (base >= INT ? 2 : 3);
        due("3 row(" + base + ", " + depth + ", 2)", d.row(base, depth, 2), fine ? next : BAD);
        if (!fine) continue;
        due("3 base", d.about(next, 0), base);
        due("3 depth", d.about(next, 1), depth);
        if (base >= INT && depth == 1) dueNumbers("3", d, next, 0, 0);
        else duePlaces("3", d, next, NONE, NONE);
        next++;
      }
    }
    due("3 base -1", d.row(-1, 1, 2), BAD);
    due("3 base 7", d.row(7, 1, 2), BAD);
    due("3 n 9", d.row(PIECE, 1, 9), BAD);
    due("3 n 8", d.row(PIECE, 1, 8), next);
    due("3 n 0", d.row(PIECE, 1, 0), next + 1);
    due("3 no places", d.get(next + 1, 0), INDEX);
    due("3 n -1", d.row(PIECE, 1, -1), SIZE);
    due("3 n lowest", d.row(LONG, 2, LOWEST), SIZE);
    dueFailures("3", d, 3, 5);
    due("3 BAD ahead of SIZE", d.row(INT, 3, -1), BAD);
    due("3 count(0)", d.count(0), next + 2);
    fill(d, 60);
    due("3 FULL", d.row(PIECE, 1, 1), FULL);
    due("3 FULL ahead of SIZE", d.row(PIECE, 1, -1), FULL);
    due("3 BAD ahead of FULL", d.row(PIECE, 1, 9), BAD);
    dueFailures("3 no more of them", d, 3, 5);
  }

  /** Promises 3, 13, 16: the last place of the last THING is the last of all. */
  private static void theSixtiethRow() {
    DepotTrays d = new DepotTrays();
    fill(d, 58);
    due("3 a vase", d.piece(VASE, 3), 58);
    due("3 the sixtieth", d.row(PIECE, 1, 8), 59);
    for (int i = 0; i < 8; i++) due("5 a vase into " + i, d.put(59, i, 58), 1);
    due("5 index 8", d.put(59, 8, 58), INDEX);
    due("13 eight vases", d.worth(59), 48);
    due("16 eight vases", d.frail(59), 8);
    due("20 clear", d.clear(), 60);
    fill(d, 59);
    due("3 the sixtieth with fewer places", d.row(PIECE, 1, 7), 59);
    due("13 nothing", d.worth(59), 0);
    due("16 nothing", d.frail(59), 0);
  }

  private static void promise4Grid() {
    for (int base = PIECE; base <= LONG; base++) {
      DepotTrays d = new DepotTrays();
      d.piece(PIECE, 1);
      due("4 grid(" + base + ", 2, 3)", d.grid(base, 2, 3), 1);
      due("4 base", d.about(1, 0), base);
      due("4 depth", d.about(1, 1), 2);
      duePlaces("4", d, 1, 2, 3);
      for (int x = 2; x <= 3; x++) {
        due("4 inner base", d.about(x, 0), base);
        due("4 inner depth", d.about(x, 1), 1);
        if (base >= INT) dueNumbers("4 inner", d, x, 0, 0, 0);
        else duePlaces("4 inner", d, x, NONE, NONE, NONE);
      }
      due("4 none more", d.count(0), 4);
    }
    DepotTrays d = new DepotTrays();
    due("4 base -1", d.grid(-1, 1, 1), BAD);
    due("4 base 7", d.grid(7, 1, 1), BAD);
    due("4 n 9", d.grid(PIECE, 9, 1), BAD);
    due("4 m 9", d.grid(PIECE, 1, 9), BAD);
    due("4 m 9 with n 0", d.grid(PIECE, 0, 9), BAD);
    due("4 BAD ahead of SIZE", d.grid(PIECE, -1, 9), BAD);
    due("4 n -1", d.grid(PIECE, -1, 1), SIZE);
    due("4 m -1", d.grid(PIECE, 1, -1), SIZE);
    due("4 m -1 with n 0", d.grid(PIECE, 0, -1), SIZE);
    dueFailures("4", d, 3, 5);
    due("4 nothing made", d.count(0), 0);
    due("4 n 0", d.grid(PIECE, 0, 8), 0);
    due("4 n 8, m 0", d.grid(PIECE, 8, 0), 1);
    due("4 the last inner one", d.get(1, 7), 9);
    due("4 of no places", d.about(9, 2), 0);
  }

  private static void promise4GridFull() {
    DepotTrays d = new DepotTrays();
    fill(d, 57);
    due("4 one too many", d.grid(PIECE, 3, 1), FULL);
    due("4 FULL ahead of m -1", d.grid(PIECE, 3, -1), FULL);
    due("4 nothing made", d.count(0), 57);
    due("4 m -1 where there is room", d.grid(PIECE, 2, -1), SIZE);
    due("4 up to 60", d.grid(PIECE, 2, 1), 57);
    due("4 sixty", d.count(0), 60);
    due("4 n -1 counts as 0, plus one", d.grid(PIECE, -1, 1), FULL);
    due("4 BAD ahead of FULL", d.grid(7, 1, 1), BAD);
    d = new DepotTrays();
    fill(d, 59);
    due("4 n lowest as if 0", d.grid(PIECE, LOWEST, 1), SIZE);
    due("4 n 0 as the sixtieth", d.grid(PIECE, 0, 1), 59);
  }

  private static void promise5PutByBases() {
    int[][] want = {
      {1, 1, 1, 1},
      {STORE, 1, STORE, STORE},
      {STORE, STORE, 1, 1},
      {STORE, STORE, STORE, 1},
      {CAST, 1, CAST, 1},
    };
    for (int base = PIECE; base <= FRAIL; base++) {
      DepotTrays d = withPieces();
      int r = d.row(base, 1, 4);
      for (int x = 0; x <= 3; x++) {
        due("5 put " + x + " into base " + base, d.put(r, x, x), want[base][x]);
        due("5 it lies there or not", d.get(r, x), want[base][x] == 1 ? x : NONE);
      }
      due("5 NONE", d.put(r, 3, NONE), 1);
      due("5 NONE lies there", d.get(r, 3), NONE);
      due("5 index 4", d.put(r, 4, CROWN), INDEX);
      due("5 index -1", d.put(r, -1, NONE), INDEX);
      due("5 index highest", d.put(r, HIGHEST, PIECE), base == FRAIL ? CAST : INDEX);
      due("5 a row is no piece", d.put(r, 9, r), CAST);
    }
  }

  private static void promise5PutByDepths() {
    DepotTrays d = new DepotTrays();
    int coins2 = d.row(COIN, 2, 2);
    int crowns1 = d.row(CROWN, 1, 1);
    int pieces1 = d.row(PIECE, 1, 1);
    int vases1 = d.row(VASE, 1, 1);
    int frail1 = d.row(FRAIL, 1, 1);
    int crown = d.piece(CROWN, 1);
    due("5 crowns into coins", d.put(coins2, 0, crowns1), 1);
    due("5 pieces into coins", d.put(coins2, 1, pieces1), STORE);
    due("5 frail ones into coins", d.put(coins2, 1, frail1), CAST);
    due("5 a crown into a depth of 2", d.put(coins2, 1, crown), CAST);
    int frail3 = d.row(FRAIL, 3, 1);
    int frail2 = d.row(FRAIL, 2, 2);
    int vases2 = d.row(VASE, 2, 1);
    due("5 vases into frail", d.put(frail2, 0, vases1), 1);
    due("5 frail into frail", d.put(frail2, 1, frail1), 1);
    due("5 coins into frail", d.put(frail3, 0, coins2), CAST);
    due("5 vases into frail of depth 3", d.put(frail3, 0, vases2), 1);
    due("5 a depth too low", d.put(frail3, 0, vases1), CAST);
    int ints2 = d.grid(INT, 1, 1);
    int ints1 = d.get(ints2, 0);
    int longs1 = d.row(LONG, 1, 1);
    int longs2 = d.row(LONG, 2, 1);
    due("5 ints", d.put(ints2, 0, ints1), 1);
    due("5 longs into longs", d.put(longs2, 0, longs1), 1);
    due("5 longs into ints", d.put(ints2, 0, longs1), CAST);
    due("5 ints into longs", d.put(longs2, 0, ints1), CAST);
    due("5 CAST ahead of INDEX", d.put(longs2, 7, ints1), CAST);
    due("5 index of longs", d.put(longs2, 1, longs1), INDEX);
    due("5 ints into pieces", d.put(d.row(PIECE, 2, 1), 0, ints1), CAST);
    due("5 NONE into ints", d.put(ints2, 0, NONE), 1);
    due("5 NONE in ints", d.get(ints2, 0), NONE);
  }

  private static void promise5PutRefusals() {
    DepotTrays d = withPieces();
    int r = d.row(PIECE, 1, 2);
    int ledger = d.row(LONG, 1, 2);
    due("5 r -2", d.put(-2, 0, 0), BAD);
    due("5 r too high", d.put(6, 0, 0), BAD);
    due("5 x -2", d.put(r, 0, -2), BAD);
    due("5 x too high", d.put(r, 0, 6), BAD);
    due("5 BAD x ahead of NULL", d.put(NONE, 0, 6), BAD);
    dueFailures("5", d, 0, 0);
    due("5 NULL", d.put(NONE, 0, CROWN), NULL);
    due("5 NULL with NONE", d.put(NONE, -1, NONE), NULL);
    due("5 NONE: CAST", d.put(NONE, 0, r), CAST);
    due("5 a piece has no places", d.put(VASE, 0, PIECE), CAST);
    due("5 a piece and NONE", d.put(VASE, 0, NONE), CAST);
    due("5 a ledger", d.put(ledger, 0, PIECE), CAST);
    due("5 a ledger and NONE", d.put(ledger, 0, NONE), CAST);
    dueFailures("5 all of them", d, 7, 2);
    due("5 INDEX ahead of STORE", d.put(d.row(VASE, 1, 1), 1, COIN), INDEX);
  }

  private static void promise6Get() {
    DepotTrays d = withPieces();
    int r = d.row(PIECE, 1, 8);
    int ledger = d.row(INT, 1, 2);
    int ledgers = d.row(INT, 2, 2);
    d.put(r, 7, COIN);
    d.put(ledgers, 1, ledger);
    due("6 the last place", d.get(r, 7), COIN);
    due("6 NONE", d.get(r, 0), NONE);
    due("6 a ledger in it", d.get(ledgers, 1), ledger);
    due("6 r -2", d.get(-2, 0), BAD);
    due("6 r too high", d.get(7, 0), BAD);
    dueFailures("6", d, 0, 0);
    due("6 NULL", d.get(NONE, -1), NULL);
    due("6 a piece", d.get(COIN, 0), CAST);
    due("6 a ledger", d.get(ledger, 0), CAST);
    due("6 a ledger ahead of INDEX", d.get(ledger, 9), CAST);
    due("6 index 8", d.get(r, 8), INDEX);
    due("6 index -1", d.get(r, -1), INDEX);
    due("6 index lowest", d.get(r, LOWEST), INDEX);
    dueFailures("6", d, 7, 3);
  }

  private static void promise7Set() {
    DepotTrays d = new DepotTrays();
    int ints = d.row(INT, 1, 3);
    int longs = d.row(LONG, 1, 3);
    long wide = 0x1_8000_0001L;
    due("7 int", d.set(ints, 0, wide), 1);
    due("7 int lowest", d.set(ints, 1, Long.MIN_VALUE), 1);
    due("7 int -1", d.set(ints, 2, -1L), 1);
    dueNumbers("7", d, ints, (int) wide, 0, -1);
    due("7 long", d.set(longs, 0, wide), 1);
    due("7 long lowest", d.set(longs, 1, Long.MIN_VALUE), 1);
    dueNumbers("7", d, longs, wide, Long.MIN_VALUE, 0);
    due("7 r -2", d.set(-2, 0, 1), BAD);
    due("7 r too high", d.set(2, 0, 1), BAD);
    dueFailures("7", d, 0, 0);
    due("7 NULL", d.set(NONE, 9, 1), NULL);
    due("7 index 3", d.set(longs, 3, 1), INDEX);
    due("7 index -1", d.set(longs, -1, 1), INDEX);
    int vase = d.piece(VASE, 1);
    int pieces = d.row(PIECE, 1, 1);
    int ledgers = d.row(LONG, 2, 1);
    due("7 a piece", d.set(vase, 0, 1), CAST);
    due("7 a row of pieces", d.set(pieces, 0, 1), CAST);
    due("7 a row of ledgers", d.set(ledgers, 9, 1), CAST);
    dueFailures("7", d, 6, 2);
    dueNumbers("7 as it was", d, longs, wide, Long.MIN_VALUE, 0);
    duePlaces("7 as it was", d, pieces, NONE);
  }

  private static void promise8Number() {
    DepotTrays d = new DepotTrays();
    int longs = d.row(LONG, 1, 2);
    int pieces = d.row(PIECE, 1, 1);
    d.set(longs, 1, 77);
    due("8 it", d.number(longs, 1), 77);
    due("8 at first", d.number(longs, 0), 0);
    due("8 index 2", d.number(longs, 2), 0);
    due("8 index -1", d.number(longs, -1), 0);
    due("8 NONE", d.number(NONE, 0), 0);
    due("8 r -2", d.number(-2, 0), 0);
    due("8 r too high", d.number(2, 0), 0);
    due("8 no ledger", d.number(pieces, 0), 0);
    due("8 a piece", d.number(d.piece(PIECE, 5), 0), 0);
    dueFailures("8 nothing changes", d, 0, 0);
  }

  private static void promise9Is() {
    String[] want = {"1000000", "1100100", "1010000", "1011100", "0000100", "0000010", "0000001"};
    for (int base = PIECE; base <= LONG; base++) {
      DepotTrays d = withPieces();
      for (int depth = base >= FRAIL ? 1 : 0; depth <= (base >= INT ? 2 : 3); depth++) {
        int x = depth == 0 ? base : d.row(base, depth, 1);
        for (int b = PIECE; b <= LONG; b++) {
          String call = "9 (" + base + ", " + depth + ") is of base " + b + " and depth ";
          for (int e = 0; e <= 3; e++) {
            boolean bad = b >= INT && (e == 0 || e == 3);
            int yes = e == depth && want[base].charAt(b) == '1' ? 1 : 0;
            due(call + e, d.is(x, b, e), bad ? BAD : yes);
          }
        }
      }
    }
    DepotTrays d = withPieces();
    due("9 NONE", d.is(NONE, PIECE, 0), 0);
    due("9 NONE and a bad depth", d.is(NONE, LONG, 3), BAD);
    due("9 x -2", d.is(-2, PIECE, 0), BAD);
    due("9 x too high", d.is(4, PIECE, 0), BAD);
    due("9 base -1", d.is(0, -1, 0), BAD);
    due("9 base 7", d.is(0, 7, 1), BAD);
    due("9 depth -1", d.is(0, PIECE, -1), BAD);
    due("9 depth 4", d.is(0, FRAIL, 4), BAD);
    dueFailures("9", d, 0, 0);
  }

  private static void promise10Door() {
    DepotTrays d = withPieces();
    due("10 door 0", d.door(0, COIN, 0), 1);
    due("10 door 7", d.door(7, LONG, 2), 1);
    due("10 door 6", d.door(6, FRAIL, 3), 1);
    due("10 k -1", d.door(-1, PIECE, 0), BAD);
    due("10 k 8", d.door(8, PIECE, 0), BAD);
    due("10 base -1", d.door(0, -1, 0), BAD);
    due("10 base 7", d.door(0, 7, 1), BAD);
    due("10 depth -1", d.door(0, PIECE, -1), BAD);
    due("10 depth 4", d.door(0, PIECE, 4), BAD);
    due("10 ints of depth 0", d.door(0, INT, 0), BAD);
    due("10 longs of depth 3", d.door(0, LONG, 3), BAD);
    dueFailures("10", d, 0, 0);
    due("10 a crown is a coin", d.through(CROWN, 0, 1), 1);
    due("10 a vase is no coin", d.through(VASE, 0, 1), CAST);
    due("10 longs", d.through(d.row(LONG, 2, 1), 7, 1), 1);
    due("10 ints", d.through(d.row(INT, 2, 1), 7, 1), CAST);
    due("10 vases", d.through(d.row(VASE, 3, 1), 6, 1), 1);
    due("10 a door may change", d.door(0, VASE, 0), 1);
    due("10 a vase", d.through(VASE, 0, 1), 1);
  }

  private static void promise11Through() {
    DepotTrays d = withPieces();
    due("11 all doors as at first", d.through(VASE, 0, 8), 1);
    int row = d.row(PIECE, 1, 1);
    due("11 a row at first", d.through(row, 7, 1), CAST);
    due("11 it was door 7", d.lastDoor(), 7);
    due("11 no doors", d.through(row, 3, 0), 1);
    due("11 no last door", d.lastDoor(), NONE);
    d.door(2, COIN, 0);
    d.door(3, FRAIL, 0);
    d.door(4, VASE, 0);
    due("11 a crown up to 4", d.through(CROWN, 0, 4), 1);
    due("11 a crown through 4", d.through(CROWN, 0, 8), CAST);
    due("11 door 4", d.lastDoor(), 4);
    due("11 a vase", d.through(VASE, 1, 7), CAST);
    due("11 door 2", d.lastDoor(), 2);
    due("11 a vase from 3 on", d.through(VASE, 3, 5), 1);
    due("11 a coin", d.through(COIN, 2, 3), CAST);
    due("11 door 3", d.lastDoor(), 3);
    due("11 NONE goes through all", d.through(NONE, 0, 8), 1);
    dueFailures("11", d, 4, 2);
    due("11 x -2", d.through(-2, 0, 1), BAD);
    due("11 x too high", d.through(5, 0, 1), BAD);
    due("11 k -1", d.through(0, -1, 1), BAD);
    due("11 k 8", d.through(0, 8, 0), BAD);
    due("11 n -1", d.through(0, 0, -1), BAD);
    due("11 n 9", d.through(0, 0, 9), BAD);
    due("11 n 8 from 1 on", d.through(0, 1, 8), BAD);
    due("11 n highest", d.through(0, 7, HIGHEST), BAD);
    due("11 n 1 from 7 on", d.through(0, 7, 1), 1);
    dueFailures("11 BAD is none", d, 4, 2);
  }

  private static void promise12LastDoor() {
    DepotTrays d = withPieces();
    due("12 before", d.lastDoor(), NONE);
    due("12 BAD", d.through(0, 8, 1), BAD);
    due("12 still none", d.lastDoor(), NONE);
    d.door(5, CROWN, 0);
    due("12 it stays out", d.through(VASE, 2, 6), CAST);
    due("12 door 5", d.lastDoor(), 5);
    due("12 BAD", d.through(9, 0, 1), BAD);
    due("12 still door 5", d.lastDoor(), 5);
    due("12 another failure", d.get(NONE, 0), NULL);
    due("12 still door 5", d.lastDoor(), 5);
    due("12 clear", d.clear(), 4);
    due("12 the latest through() is still that one", d.lastDoor(), 5);
    due("12 NONE goes through", d.through(NONE, 5, 1), 1);
    due("12 none", d.lastDoor(), NONE);
  }

  private static void promise13Worth() {
    DepotTrays d = withPieces();
    long[] want = {10, 40, 30, 140};
    for (int x = 0; x <= 3; x++) {
      due("13 worth(" + x + ")", d.worth(x), want[x]);
    }
    due("13 a vase's is a long", d.worth(d.piece(VASE, HIGHEST)), 2L * HIGHEST);
    due("13 a crown's is a long", d.worth(d.piece(CROWN, HIGHEST)), HIGHEST + 100L);
    due("13 below 0", d.worth(d.piece(VASE, LOWEST)), 2L * LOWEST);
    due("13 NONE", d.worth(NONE), 0);
    due("13 x -2", d.worth(-2), 0);
    due("13 x too high", d.worth(7), 0);
    int rooms = d.row(PIECE, 3, 2);
    int cabinet = d.grid(PIECE, 3, 3);
    int tray = d.get(cabinet, 1);
    d.put(tray, 0, VASE);
    d.put(tray, 2, CROWN);
    d.put(d.get(cabinet, 2), 1, COIN);
    due("13 a tray", d.worth(tray), 180);
    due("13 a cabinet", d.worth(cabinet), 210);
    d.put(cabinet, 0, tray);
    due("13 a tray twice", d.worth(cabinet), 390);
    d.put(rooms, 0, cabinet);
    d.put(rooms, 1, cabinet);
    due("13 rooms", d.worth(rooms), 780);
    int longs = d.grid(LONG, 2, 2);
    d.set(d.get(longs, 0), 0, Long.MAX_VALUE);
    d.set(d.get(longs, 1), 1, 2);
    due("13 a ledger", d.worth(d.get(longs, 0)), Long.MAX_VALUE);
    due("13 longs wrap", d.worth(longs), Long.MIN_VALUE + 1);
    int ints = d.row(INT, 1, 2);
    d.set(ints, 0, HIGHEST);
    d.set(ints, 1, HIGHEST);
    due("13 ints together are a long", d.worth(ints), 2L * HIGHEST);
    due("13 no places", d.worth(d.row(PIECE, 1, 0)), 0);
    dueFailures("13", d, 0, 0);
  }

  private static void promise14Copy() {
    DepotTrays d = withPieces();
    int tray = d.row(COIN, 1, 3);
    d.put(tray, 0, COIN);
    d.put(tray, 2, CROWN);
    int twin = d.copy(tray);
    due("14 its number", twin, 5);
    due("14 its base", d.about(twin, 0), COIN);
    due("14 its depth", d.about(twin, 1), 1);
    duePlaces("14", d, twin, COIN, NONE, CROWN);
    d.put(twin, 1, COIN);
    duePlaces("14 the first is as it was", d, tray, COIN, NONE, CROWN);
    int longs = d.row(LONG, 1, 2);
    d.set(longs, 1, Long.MIN_VALUE);
    dueNumbers("14 a ledger", d, d.copy(longs), 0, Long.MIN_VALUE);
    int grid = d.grid(VASE, 2, 1);
    int gridTwin = d.copy(grid);
    due("14 one alone more", d.count(0), gridTwin + 1);
    duePlaces("14 the same in it", d, gridTwin, grid + 1, grid + 2);
    due("14 its depth", d.about(gridTwin, 1), 2);
    due("14 x -2", d.copy(-2), BAD);
    due("14 x too high", d.copy(60), BAD);
    due("14 NULL", d.copy(NONE), NULL);
    due("14 a piece", d.copy(VASE), CAST);
    dueFailures("14", d, 2, 2);
    fill(d, 60);
    due("14 FULL", d.copy(tray), FULL);
    due("14 FULL ahead of NULL", d.copy(NONE), FULL);
    due("14 FULL ahead of CAST", d.copy(VASE), FULL);
    due("14 BAD ahead of FULL", d.copy(60), BAD);
    dueFailures("14 no more of them", d, 2, 2);
  }

  private static void promise15CarryRefusals() {
    DepotTrays d = withPieces();
    int pieces = d.row(PIECE, 1, 4);
    int coins = d.row(COIN, 1, 3);
    int ints = d.row(INT, 1, 4);
    int longs = d.row(LONG, 1, 4);
    int ints2 = d.row(INT, 2, 4);
    due("15 r -2", d.carry(-2, 0, pieces, 0, 0), BAD);
    due("15 s too high", d.carry(NONE, 0, 9, 0, 0), BAD);
    dueFailures("15", d, 0, 0);
    due("15 r NONE", d.carry(NONE, 0, VASE, 0, -1), NULL);
    due("15 s NONE", d.carry(VASE, 0, NONE, 0, -1), NULL);
    due("15 r a piece", d.carry(VASE, 0, pieces, 0, -1), STORE);
    due("15 s a piece", d.carry(pieces, 0, VASE, 0, 0), STORE);
    due("15 r a ledger", d.carry(ints, 0, ints2, 0, 0), STORE);
    due("15 s a ledger", d.carry(pieces, 0, longs, 0, 0), STORE);
    due("15 unlike ledgers", d.carry(ints, -1, longs, 0, 0), STORE);
    dueFailures("15", d, 7, 4);
    due("15 i -1", d.carry(pieces, -1, coins, 0, 1), INDEX);
    due("15 j -1", d.carry(pieces, 0, coins, -1, 1), INDEX);
    due("15 n -1", d.carry(pieces, 0, coins, 0, -1), INDEX);
    due("15 n lowest", d.carry(pieces, 0, coins, 0, LOWEST), INDEX);
    due("15 n highest", d.carry(pieces, 1, coins, 1, HIGHEST), INDEX);
    due("15 i highest", d.carry(pieces, HIGHEST, coins, 0, 1), INDEX);
    due("15 j highest", d.carry(pieces, 0, coins, HIGHEST, HIGHEST), INDEX);
    due("15 i 2, n 3", d.carry(pieces, 2, coins, 0, 3), INDEX);
    due("15 j 1, n 3", d.carry(pieces, 0, coins, 1, 3), INDEX);
    due("15 i 5, n 0", d.carry(pieces, 5, coins, 0, 0), INDEX);
    due("15 j 4, n 0", d.carry(pieces, 0, coins, 4, 0), INDEX);
    due("15 ledgers", d.carry(ints, 2, ints, 0, 3), INDEX);
    dueFailures("15", d, 19, 3);
    due("15 n 0 at both ends", d.carry(pieces, 4, coins, 3, 0), 1);
    due("15 up to both ends", d.carry(pieces, 1, coins, 0, 3), 1);
    due("15 places of depth 2", d.carry(ints2, 0, pieces, 0, 4), 1);
  }

  private static void promise15CarryPlaces() {
    DepotTrays d = withPieces();
    int r = d.row(PIECE, 1, 5);
    int s = d.row(COIN, 1, 6);
    d.put(r, 0, COIN);
    d.put(r, 2, CROWN);
    d.put(r, 3, VASE);
    d.put(r, 4, COIN);
    for (int i = 0; i < 6; i++) d.put(s, i, COIN);
    due("15 the vase does not go", d.carry(r, 0, s, 1, 5), STORE);
    duePlaces("15 those ahead have come", d, s, COIN, COIN, NONE, CROWN, COIN, COIN);
    duePlaces("15 the first as it was", d, r, COIN, NONE, CROWN, VASE, COIN);
    due("15 fewer go", d.carry(r, 1, s, 0, 2), 1);
    duePlaces("15 they have come", d, s, NONE, CROWN, NONE, CROWN, COIN, COIN);
    due("15 onto itself, up", d.carry(r, 0, r, 1, 4), 1);
    duePlaces("15 as they were ahead", d, r, COIN, COIN, NONE, CROWN, VASE);
    due("15 onto itself, down", d.carry(r, 1, r, 0, 4), 1);
    duePlaces("15 as they were ahead", d, r, COIN, NONE, CROWN, VASE, VASE);
    int cabinet = d.grid(CROWN, 2, 1);
    due("15 trays into a tray", d.carry(cabinet, 0, r, 0, 2), STORE);
    int coins2 = d.row(COIN, 2, 2);
    due("15 crowns into coins", d.carry(cabinet, 0, coins2, 0, 2), 1);
    duePlaces("15 trays", d, coins2, cabinet + 1, cabinet + 2);
    due("15 coins' crowns into crowns", d.carry(coins2, 1, cabinet, 0, 1), 1);
    duePlaces("15 by what lies there", d, cabinet, cabinet + 2, cabinet + 2);
    int vases2 = d.row(VASE, 2, 2);
    due("15 crowns into vases", d.carry(coins2, 0, vases2, 0, 2), STORE);
    duePlaces("15 none came", d, vases2, NONE, NONE);
    int frail2 = d.row(FRAIL, 2, 2);
    due("15 crowns into frail", d.carry(coins2, 0, frail2, 0, 2), 1);
    int ints2 = d.grid(INT, 2, 1);
    due("15 ledgers into pieces", d.carry(ints2, 0, d.row(PIECE, 2, 2), 0, 2), STORE);
    due("15 ledgers of ints into longs", d.carry(ints2, 0, d.row(LONG, 2, 2), 0, 2), STORE);
    due("15 ledgers into ints", d.carry(ints2, 0, d.row(INT, 2, 2), 0, 2), 1);
  }

  private static void promise15CarryLedgers() {
    for (int base = INT; base <= LONG; base++) {
      DepotTrays d = new DepotTrays();
      int r = d.row(base, 1, 4);
      int s = d.row(base, 1, 3);
      for (int i = 0; i < 4; i++) d.set(r, i, i - 8);
      due("15 ledgers", d.carry(r, 1, s, 0, 3), 1);
      dueNumbers("15 ledgers", d, s, -7, -6, -5);
      due("15 a ledger onto itself", d.carry(r, 0, r, 1, 3), 1);
      dueNumbers("15 onto itself", d, r, -8, -8, -7, -6);
    }
  }

  private static void promise16Frail() {
    DepotTrays d = withPieces();
    int[] want = {0, 1, 0, 1};
    for (int x = 0; x <= 3; x++) {
      due("16 frail(" + x + ")", d.frail(x), want[x]);
    }
    int cabinet = d.grid(PIECE, 2, 4);
    int tray = d.get(cabinet, 0);
    for (int x = 0; x <= 3; x++) d.put(tray, x, x);
    due("16 a tray", d.frail(tray), 2);
    d.put(tray, 0, VASE);
    due("16 a vase twice", d.frail(tray), 3);
    d.put(cabinet, 1, tray);
    due("16 a tray twice", d.frail(cabinet), 6);
    int room = d.row(PIECE, 3, 3);
    d.put(room, 0, cabinet);
    d.put(room, 2, cabinet);
    due("16 a room", d.frail(room), 12);
    due("16 an empty row of frail ones", d.frail(d.row(FRAIL, 1, 8)), 0);
    due("16 x -2", d.frail(-2), BAD);
    due("16 x too high", d.frail(60), BAD);
    dueFailures("16", d, 0, 0);
    due("16 NULL", d.frail(NONE), NULL);
    due("16 a ledger", d.frail(d.row(INT, 1, 1)), CAST);
    due("16 ledgers", d.frail(d.row(LONG, 2, 0)), CAST);
    dueFailures("16", d, 3, 2);
  }

  private static void promise17About() {
    DepotTrays d = withPieces();
    int r = d.row(FRAIL, 3, 8);
    due("17 base of a piece", d.about(CROWN, 0), CROWN);
    due("17 depth of a piece", d.about(CROWN, 1), 0);
    due("17 places of a piece", d.about(CROWN, 2), NONE);
    due("17 base", d.about(r, 0), FRAIL);
    due("17 depth", d.about(r, 1), 3);
    due("17 places", d.about(r, 2), 8);
    due("17 no places", d.about(d.row(INT, 1, 0), 2), 0);
    due("17 what -1", d.about(r, -1), BAD);
    due("17 what 3", d.about(r, 3), BAD);
    due("17 NONE", d.about(NONE, 0), BAD);
    due("17 x too high", d.about(6, 0), BAD);
    dueFailures("17", d, 0, 0);
  }

  private static void promise18Bases() {
    DepotTrays d = withPieces();
    int[] want = {1, 1 + 2 + 16, 1 + 4, 1 + 4 + 8 + 16, 16, 32, 64};
    for (int base = PIECE; base <= LONG; base++) {
      if (base <= CROWN) due("18 piece " + base, d.bases(base), want[base]);
      due("18 row " + base, d.bases(d.row(base, 2, 1)), want[base]);
    }
    due("18 NONE", d.bases(NONE), BAD);
    due("18 x too high", d.bases(11), BAD);
    dueFailures("18", d, 0, 0);
  }

  private static void promise19Count() {
    DepotTrays d = withPieces();
    due("19 things", d.count(0), 4);
    dueFailures("19 none", d, 0, 0);
    int r = d.row(COIN, 1, 1);
    d.get(NONE, 0);
    dueFailures("19 NULL", d, 1, 1);
    d.get(COIN, 0);
    dueFailures("19 CAST", d, 2, 2);
    d.get(r, 1);
    dueFailures("19 INDEX", d, 3, 3);
    d.put(r, 0, VASE);
    dueFailures("19 STORE", d, 4, 4);
    d.row(COIN, 1, -1);
    dueFailures("19 SIZE", d, 5, 5);
    due("19 a call that goes well", d.put(r, 0, CROWN), 1);
    due("19 a BAD call", d.put(r, 0, 99), BAD);
    dueFailures("19 as before", d, 5, 5);
    due("19 what -1", d.count(-1), BAD);
    due("19 what 3", d.count(3), BAD);
    due("19 things", d.count(0), 5);
  }

  private static void promise20Clear() {
    DepotTrays d = withPieces();
    int pieces = d.row(PIECE, 1, 8);
    for (int i = 0; i < 8; i++) d.put(pieces, i, CROWN);
    d.door(3, LONG, 2);
    d.get(pieces, 8);
    due("20 clear", d.clear(), 5);
    due("20 no things", d.count(0), 0);
    due("20 no such thing", d.about(0, 0), BAD);
    dueFailures("20 stay", d, 1, 3);
    due("20 from 0 on", d.row(LONG, 1, 8), 0);
    due("20 a piece", d.piece(PIECE, 2), 1);
    due("20 doors as at first", d.through(1, 0, 8), 1);
    due("20 doors as at first", d.through(0, 3, 1), CAST);
    for (int x = 2; x < 5; x++) d.row(PIECE, 2, 8);
    dueNumbers("20 new numbers", d, 0, 0, 0, 0, 0, 0, 0, 0, 0);
    duePlaces("20 new places", d, 4, NONE, NONE, NONE, NONE, NONE, NONE, NONE, NONE);
    due("20 a new worth", d.worth(1), 2);
    fill(d, 60);
    due("20 sixty", d.clear(), 60);
    due("20 none", d.clear(), 0);
    due("20 there is room again", d.grid(PIECE, 8, 8), 0);
  }
}
