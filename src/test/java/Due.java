/** Compares answers with those that are due, and ends a test. */
final class Due {
  private static int wrong = 0;
  private static int compared = 0;
  private static String sentence = "";

  private Due() {}

  /** Names the document's sentence that the comparisons to come are about; it is printed with what fails. */
  static void sentence(String words) {
    sentence = words;
  }

  static void is(String what, long got, long want) {
    compared++;
    if (got != want) tell(what + " answered " + got + ", due is " + want);
  }

  static void same(String what, String got, String want) {
    compared++;
    if (!got.equals(want)) tell(what + ": " + got + ", due is " + want);
  }

  private static void tell(String what) {
    wrong++;
    System.out.println(sentence.isEmpty() ? what : "\"" + sentence + "\": " + what);
  }

  static int wrongSoFar() {
    return wrong;
  }

  static void end() {
    System.out.println(wrong == 0 ? compared + " answers are as due" : wrong + " answers are not as due");
    if (wrong != 0) System.exit(1);
  }
}
