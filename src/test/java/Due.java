/** Compares answers with those that are due, and ends a test. */
final class Due {
  private static int wrong = 0;
  private static int compared = 0;

  private Due() {}

  static void is(String what, long got, long want) {
    compared++;
    if (got == want) return;
    wrong++;
    System.out.println(what + " answered " + got + ", due is " + want);
  }

  static int wrongSoFar() {
    return wrong;
  }

  static void end() {
    System.out.println(wrong == 0 ? compared + " answers are as due" : wrong + " answers are not as due");
    if (wrong != 0) System.exit(1);
  }
}
