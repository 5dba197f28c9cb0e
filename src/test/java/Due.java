/** Counts and prints the answers that are not the ones that are due. */
final class Due {
  private static int wrong = 0;
  private static int looked = 0;
  private static String where = "";

  private Due() {
  }

  static void due(String call, long got, long want) {
    looked++;
    if (got == want) return;
    wrong++;
    System.out.println(where + call + " answered " + got + ", due is " + want);
  }

  static void same(String what, String got, String want) {
    looked++;
    if (got.equals(want)) return;
    wrong++;
    System.out.println(where + what + " is\n  " + got + "\ndue is\n  " + want);
  }

  /** The test of one sentence of the document. One that looks at nothing has failed, too. */
  static void sentence(String promise, String text, Runnable test) {
    int before = looked;
    where = "[" + promise + ": " + text + "] ";
    test.run();
    if (looked == before) due("how many answers were looked at", 0, 1);
    where = "";
  }

  static void end() {
    System.out.println(wrong == 0 ? "all answers are as due" : wrong + " answers are not as due");
    if (wrong != 0) System.exit(1);
  }
}
