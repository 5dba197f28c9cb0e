/**
 * What the tests of the document's edges share: a mixed depot, all that can be seen of a depot,
 * and calls that are refused. No object gets more than the document's 512 calls.
 */
abstract class Edges {
  static final int NONE = DepotTrays.NONE, BAD = DepotTrays.BAD, FULL = DepotTrays.FULL;
  static final int NULL = -11, CAST = -12, INDEX = -13, STORE = -14, SIZE = -15;
  static final int PIECE = 0, VASE = 1, COIN = 2, CROWN = 3, FRAIL = 4, INT = 5, LONG = 6;
  static final int LOWEST = Integer.MIN_VALUE, HIGHEST = Integer.MAX_VALUE;

  /** The mixed depot's THINGS below KINDS are one of each kind; of() tells which is which. */
  static final int KINDS = 23, NO_PLACES = 23, EIGHT = 24, MIXED = 25;

  /** Row a, place b: whether base a GOES FOR base b. */
  private static final String[] GOES_FOR = {
    "1000000", "1100100", "1010000", "1011100", "0000100", "0000010", "0000001",
  };

  /** The kinds that tell any two DOORS apart by what they let through. */
  private static final int[][] PROBES = {
    {VASE, 0}, {COIN, 0}, {CROWN, 0}, {VASE, 1}, {COIN, 1}, {CROWN, 1}, {INT, 1}, {LONG, 1},
    {VASE, 2}, {COIN, 2}, {CROWN, 2}, {INT, 2}, {LONG, 2}, {VASE, 3}, {COIN, 3}, {CROWN, 3},
  };

  interface Made {
    DepotTrays depot();
  }

  interface Call {
    long answer(DepotTrays d);
  }

  record Seen(String things, String doors, int failures, int latest, int lastDoor) {
  }

  static void due(String call, long got, long want) {
    Due.due(call, got, want);
  }

  static boolean goesFor(int base, int other) {
    return GOES_FOR[base].charAt(other) == '1';
  }

  /** Whether there may be a THING of this kind, were there one of base FRAIL and DEPTH 0. */
  static boolean isKind(int base, int depth) {
    if (base < PIECE || base > LONG) return false;
    return base >= INT ? depth >= 1 && depth <= 2 : depth >= 0 && depth <= 3;
  }

  /** The mixed depot's THING of a kind. */
  static int of(int base, int depth) {
    if (depth == 0) return base;
    if (base >= INT) return 19 + 2 * (depth - 1) + base - INT;
    return 4 + 5 * (depth - 1) + base;
  }

  static int baseOf(int x) {
    if (x <= CROWN) return x;
    return x < 19 ? (x - 4) % 5 : INT + (x - 19) % 2;
  }

  static int depthOf(int x) {
    if (x <= CROWN) return 0;
    return x < 19 ? 1 + (x - 4) / 5 : 1 + (x - 19) / 2;
  }

  static boolean isLedger(int x) {
    return baseOf(x) >= INT && depthOf(x) == 1;
  }

  /** One THING of each kind, the ROWS with three PLACES, the middle one filled; DOORS; FAILURES. */
  static DepotTrays mixed() {
    DepotTrays d = new DepotTrays();
    for (int x = 0; x < KINDS; x++) {
      int base = baseOf(x), depth = depthOf(x);
      due("mixed", depth == 0 ? d.piece(base, 10 * (base + 1)) : d.row(base, depth, 3), x);
    }
    due("mixed", d.row(PIECE, 1, 0), NO_PLACES);
    due("mixed", d.row(PIECE, 1, 8), EIGHT);
    for (int r = of(PIECE, 1); r < KINDS; r++) {
      if (!isLedger(r)) due("mixed put", d.put(r, 1, oneFor(r)), 1);
    }
    for (int i = 0; i < 8; i++) due("mixed put", d.put(EIGHT, i, i % 4), 1);
    d.set(of(INT, 1), 0, 7);
    d.set(of(INT, 1), 2, LOWEST);
    d.set(of(LONG, 1), 0, Long.MAX_VALUE);
    d.set(of(LONG, 1), 2, -3);
    int[][] doors = {{VASE, 0}, {FRAIL, 1}, {LONG, 2}, {COIN, 2}, {CROWN, 0}, {PIECE, 3}, {INT, 1}};
    for (int k = 1; k <= 7; k++) due("mixed door", d.door(k, doors[k - 1][0], doors[k - 1][1]), 1);
    due("mixed through", d.through(COIN, 5, 1), CAST);
    due("mixed get", d.get(NO_PLACES, 0), INDEX);
    return d;
  }

  /** The mixed depot's THING that goes into its ROW r. */
  static int oneFor(int r) {
    return r == of(FRAIL, 1) ? VASE : of(baseOf(r), depthOf(r) - 1);
  }

  /** The mixed depot with PIECES more, up to a number of THINGS. */
  static DepotTrays filled(int things) {
    DepotTrays d = mixed();
    fill(d, things);
    return d;
  }

  static DepotTrays full() {
    return filled(60);
  }

  static DepotTrays cleared() {
    DepotTrays d = mixed();
    due("clear", d.clear(), MIXED);
    return d;
  }

  static void fill(DepotTrays d, int things) {
    for (int x = d.count(0); x < things; x++) due("piece", d.piece(PIECE, x), x);
  }

  static void duePlaces(String when, DepotTrays d, int r, int... want) {
    due(when + ": how many PLACES", d.about(r, 2), want.length);
    for (int i = 0; i < want.length; i++) due(when + ": PLACE " + i, d.get(r, i), want[i]);
  }

  static void dueNumbers(String when, DepotTrays d, int r, long... want) {
    due(when + ": how many PLACES", d.about(r, 2), want.length);
    for (int i = 0; i < want.length; i++) due(when + ": number " + i, d.number(r, i), want[i]);
  }

  /** All that can be seen of a depot, which is of no use after it, as its DOORS have been tried. */
  static Seen seen(DepotTrays d) {
    int failures = d.count(1), latest = d.count(2), lastDoor = d.lastDoor();
    int things = d.count(0);
    StringBuilder text = new StringBuilder();
    for (int x = 0; x < things; x++) text.append(thingText(d, x));
    return new Seen(text.toString(), doorsText(d, things), failures, latest, lastDoor);
  }

  private static String thingText(DepotTrays d, int x) {
    int base = d.about(x, 0), depth = d.about(x, 1);
    StringBuilder text = new StringBuilder().append(x).append(':').append(base).append(',').append(depth);
    if (depth == 0) return text.append('=').append(d.worth(x)).append(' ').toString();
    int size = d.about(x, 2);
    for (int i = 0; i < size; i++) {
      text.append(i == 0 ? '[' : '|').append(base >= INT && depth == 1 ? d.number(x, i) : d.get(x, i));
    }
    return text.append(size == 0 ? "[] " : "] ").toString();
  }

  // A depot with many THINGS is a mixed one, and has what is needed already.
  private static String doorsText(DepotTrays d, int things) {
    StringBuilder text = new StringBuilder();
    for (int[] kind : PROBES) {
      int x = of(kind[0], kind[1]);
      if (things < MIXED) x = kind[1] == 0 ? d.piece(kind[0], 1) : d.row(kind[0], kind[1], 0);
      for (int k = 0; k < 8; k++) text.append(d.through(x, k, 1) == 1 ? '+' : '-');
      text.append(' ');
    }
    return text.toString();
  }

  /** A call that is refused: its answer is due, and it changes nothing but what a FAILURE counts. */
  static void refused(String call, Made made, Call run, long want) {
    refusedAs(call, made, run, want, made);
  }

  /** As refused(), but THE LAST DOOR is the one told. */
  static void refusedAt(String call, Made made, Call run, long want, int lastDoor) {
    dueSeen(call, made, run, want, seen(made.depot()), lastDoor);
  }

  /** As refused(), but the depot is then as the one told, beside what a FAILURE counts. */
  static void refusedAs(String call, Made made, Call run, long want, Made then) {
    Seen due = seen(then.depot());
    dueSeen(call, made, run, want, due, due.lastDoor());
  }

  private static void dueSeen(String call, Made made, Call run, long want, Seen due, int lastDoor) {
    DepotTrays d = made.depot();
    due(call, run.answer(d), want);
    Seen now = seen(d);
    boolean fails = want >= SIZE && want <= NULL;
    Due.same("THINGS after " + call, now.things(), due.things());
    Due.same("DOORS after " + call, now.doors(), due.doors());
    due("count(1) after " + call, now.failures(), due.failures() + (fails ? 1 : 0));
    due("count(2) after " + call, now.latest(), fails ? -10 - want : due.latest());
    due("lastDoor() after " + call, now.lastDoor(), lastDoor);
  }
}
