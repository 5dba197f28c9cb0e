public final class DepotTrays {
  public static final int NONE = -1, BAD = -2, FULL = -3;

  private static final int PIECE = 0, VASE = 1, CROWN = 3, FRAIL = 4, INT = 5, LONG = 6;
  private static final int NULL = 1, CAST = 2, INDEX = 3, STORE = 4, SIZE = 5;
  private static final int MAX_THINGS = 60, MAX_PLACES = 8, MAX_DEPTH = 3, DOORS = 8;

  // Bit b of entry a is set where base a GOES FOR base b.
  private static final int[] GOES_FOR = {1, 19, 5, 29, 16, 32, 64};

  private final int[] thingBase = new int[MAX_THINGS];
  private final int[] thingDepth = new int[MAX_THINGS];
  private final int[] thingSize = new int[MAX_THINGS];
  private final int[] pieceWorth = new int[MAX_THINGS];
  // MAX_PLACES for each THING: numbers of a LEDGER, else THINGS or NONE. One
  // row for all, so that no call has to make an array.
  private final long[] places = new long[MAX_THINGS * MAX_PLACES];
  private final int[] doorBase = new int[DOORS];
  private final int[] doorDepth = new int[DOORS];
  private int thingCount = 0;
  private int failureCount = 0;
  private int latestFailure = 0;
  private int closedDoor = NONE;

  public DepotTrays() {
  }

  public int piece(int base, int worth) {
    if (base < PIECE || base > CROWN) return BAD;
    if (!hasRoomFor(1)) return FULL;
    int x = addThing(base, 0, 0);
    pieceWorth[x] = worth;
    return x;
  }

  public int row(int base, int depth, int n) {
    if (!isKind(base, depth) || depth < 1 || n > MAX_PLACES) return BAD;
    if (!hasRoomFor(1)) return FULL;
    if (n < 0) return fail(SIZE);
    return addRow(base, depth, n);
  }

  public int grid(int base, int n, int m) {
    if (!isKind(base, 2) || n > MAX_PLACES || m > MAX_PLACES) return BAD;
    if (!hasRoomFor(1 + Math.max(n, 0))) return FULL;
    if (n < 0 || m < 0) return fail(SIZE);
    int first = addRow(base, 2, n);
    for (int i = 0; i < n; i++) {
      places[placeIndex(first, i)] = addRow(base, 1, m);
    }
    return first;
  }

  public int put(int r, int i, int x) {
    if (!isThingOrNone(r) || !isThingOrNone(x)) return BAD;
    if (r == NONE) return fail(mayPass(x, PIECE, 0) ? NULL : CAST);
    if (!holdsThings(r)) return fail(CAST);
    if (!mayPass(x, widestBase(r), thingDepth[r] - 1)) return fail(CAST);
    if (!hasPlace(r, i)) return fail(INDEX);
    if (!goesInto(x, r)) return fail(STORE);
    places[placeIndex(r, i)] = x;
    return 1;
  }

  public int get(int r, int i) {
    if (!isThingOrNone(r)) return BAD;
    if (r == NONE) return fail(NULL);
    if (!holdsThings(r)) return fail(CAST);
    if (!hasPlace(r, i)) return fail(INDEX);
    return thingAt(r, i);
  }

  public int set(int r, int i, long v) {
    if (!isThingOrNone(r)) return BAD;
    int failure = ledgerFailure(r, i);
    if (failure != 0) return fail(failure);
    places[placeIndex(r, i)] = thingBase[r] == INT ? (long) (int) v : v;
    return 1;
  }

  public long number(int r, int i) {
    if (!isThingOrNone(r) || ledgerFailure(r, i) != 0) return 0L;
    return places[placeIndex(r, i)];
  }

  public int is(int x, int base, int depth) {
    if (!isThingOrNone(x) || !isKind(base, depth)) return BAD;
    return isOfKind(x, base, depth) ? 1 : 0;
  }

  public int door(int k, int base, int depth) {
    if (!isDoor(k) || !isKind(base, depth)) return BAD;
    doorBase[k] = base;
    doorDepth[k] = depth;
    return 1;
  }

  public int through(int x, int k, int n) {
    if (!isThingOrNone(x) || !isDoor(k) || n < 0 || n > DOORS - k) return BAD;
    closedDoor = firstClosedDoor(x, k, n);
    return closedDoor == NONE ? 1 : fail(CAST);
  }

  public int lastDoor() {
    return closedDoor;
  }

  public long worth(int x) {
    return worthWithin(x, MAX_DEPTH);
  }

  public int copy(int x) {
    if (!isThingOrNone(x)) return BAD;
    if (!hasRoomFor(1)) return FULL;
    if (x == NONE) return fail(NULL);
    if (isPiece(x)) return fail(CAST);
    int y = addThing(thingBase[x], thingDepth[x], thingSize[x]);
    movePlaces(x, 0, y, 0, thingSize[x]);
    return y;
  }

  public int carry(int r, int i, int s, int j, int n) {
    if (!isThingOrNone(r) || !isThingOrNone(s)) return BAD;
    if (r == NONE || s == NONE) return fail(NULL);
    if (!areAlike(r, s)) return fail(STORE);
    if (!hasPlaces(r, i, n) || !hasPlaces(s, j, n)) return fail(INDEX);
    int going = isLedger(s) ? n : countGoing(r, i, s, n);
    movePlaces(r, i, s, j, going);
    return going == n ? 1 : fail(STORE);
  }

  public int frail(int x) {
    if (!isThingOrNone(x)) return BAD;
    if (x == NONE) return fail(NULL);
    if (isNumberBase(thingBase[x])) return fail(CAST);
    return frailWithin(x, MAX_DEPTH);
  }

  public int about(int x, int what) {
    if (!isThing(x)) return BAD;
    switch (what) {
      case 0: return thingBase[x];
      case 1: return thingDepth[x];
      case 2: return isPiece(x) ? NONE : thingSize[x];
      default: return BAD;
    }
  }

  public int bases(int x) {
    return isThing(x) ? GOES_FOR[thingBase[x]] : BAD;
  }

  public int count(int what) {
    switch (what) {
      case 0: return thingCount;
      case 1: return failureCount;
      case 2: return latestFailure;
      default: return BAD;
    }
  }

  public int clear() {
    int before = thingCount;
    thingCount = 0;
    for (int k = 0; k < DOORS; k++) {
      doorBase[k] = PIECE;
      doorDepth[k] = 0;
    }
    return before;
  }

  private int fail(int failure) {
    failureCount++;
    latestFailure = failure;
    return -10 - failure;
  }

  private boolean isThing(int x) {
    return x >= 0 && x < thingCount;
  }

  private boolean isThingOrNone(int x) {
    return x == NONE || isThing(x);
  }

  private static boolean isDoor(int k) {
    return k >= 0 && k < DOORS;
  }

  private static boolean isNumberBase(int base) {
    return base == INT || base == LONG;
  }

  private static boolean isKind(int base, int depth) {
    if (base < PIECE || base > LONG) return false;
    if (isNumberBase(base)) return depth == 1 || depth == 2;
    return depth >= 0 && depth <= MAX_DEPTH;
  }

  private boolean isPiece(int x) {
    return thingDepth[x] == 0;
  }

  private boolean isLedger(int x) {
    return thingDepth[x] == 1 && isNumberBase(thingBase[x]);
  }

  private boolean holdsThings(int x) {
    return !isPiece(x) && !isLedger(x);
  }

  private static boolean goesFor(int base, int other) {
    return (GOES_FOR[base] >> other & 1) == 1;
  }

  private boolean isOfKind(int x, int base, int depth) {
    return isThing(x) && thingDepth[x] == depth && goesFor(thingBase[x], base);
  }

  private boolean mayPass(int x, int base, int depth) {
    return x == NONE || isOfKind(x, base, depth);
  }

  private boolean goesInto(int x, int r) {
    return mayPass(x, thingBase[r], thingDepth[r] - 1);
  }

  // put() looks at a ROW of VASES, COINS or CROWNS as one of PIECES first: that
  // parts CAST from STORE.
  private int widestBase(int r) {
    return goesFor(thingBase[r], PIECE) ? PIECE : thingBase[r];
  }

  private boolean hasPlace(int r, int i) {
    return i >= 0 && i < thingSize[r];
  }

  // The sum of i and n could wrap, the difference can't once n is not below 0.
  private boolean hasPlaces(int r, int i, int n) {
    return i >= 0 && n >= 0 && i <= thingSize[r] - n;
  }

  private static int placeIndex(int r, int i) {
    return r * MAX_PLACES + i;
  }

  private int thingAt(int r, int i) {
    return (int) places[placeIndex(r, i)];
  }

  private int ledgerFailure(int r, int i) {
    if (r == NONE) return NULL;
    if (!isLedger(r)) return CAST;
    return hasPlace(r, i) ? 0 : INDEX;
  }

  private boolean hasRoomFor(int more) {
    return thingCount + more <= MAX_THINGS;
  }

  private int addThing(int base, int depth, int size) {
    int x = thingCount;
    thingBase[x] = base;
    thingDepth[x] = depth;
    thingSize[x] = size;
    thingCount++;
    return x;
  }

  // The places may hold what lay there before a clear().
  private int addRow(int base, int depth, int n) {
    int r = addThing(base, depth, n);
    long empty = isLedger(r) ? 0L : (long) NONE;
    for (int i = 0; i < n; i++) {
      places[placeIndex(r, i)] = empty;
    }
    return r;
  }

  private int firstClosedDoor(int x, int k, int n) {
    for (int d = k; d < k + n; d++) {
      if (!mayPass(x, doorBase[d], doorDepth[d])) return d;
    }
    return NONE;
  }

  private boolean areAlike(int r, int s) {
    if (isPiece(r) || isPiece(s)) return false;
    if (isLedger(r) != isLedger(s)) return false;
    return !isLedger(r) || thingBase[r] == thingBase[s];
  }

  private int countGoing(int r, int i, int s, int n) {
    int going = 0;
    while (going < n && goesInto(thingAt(r, i + going), s)) {
      going++;
    }
    return going;
  }

  // arraycopy moves as if through a second array, so r and s may be one ROW.
  private void movePlaces(int r, int i, int s, int j, int n) {
    System.arraycopy(places, placeIndex(r, i), places, placeIndex(s, j), n);
  }

  private long worthWithin(int x, int levels) {
    if (!isThing(x) || levels < 0) return 0L;
    if (isPiece(x)) return worthOfPiece(x);
    long sum = 0L;
    for (int i = 0; i < thingSize[x]; i++) {
      sum += isLedger(x) ? places[placeIndex(x, i)] : worthWithin(thingAt(x, i), levels - 1);
    }
    return sum;
  }

  private long worthOfPiece(int x) {
    long worth = pieceWorth[x];
    switch (thingBase[x]) {
      case VASE: return 2L * worth;
      case CROWN: return worth + 100L;
      default: return worth;
    }
  }

  private int frailWithin(int x, int levels) {
    if (!isThing(x) || levels < 0) return 0;
    if (isPiece(x)) return goesFor(thingBase[x], FRAIL) ? 1 : 0;
    int sum = 0;
    for (int i = 0; i < thingSize[x]; i++) {
      sum += frailWithin(thingAt(x, i), levels - 1);
    }
    return sum;
  }
}
