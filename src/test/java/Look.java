/** All that can be seen of an object, as a text, so that two objects, or two moments, can be compared. */
final class Look {
  private Look() {}

  static String of(ContractFrames x) {
    StringBuilder text = new StringBuilder();
    for (int what = 0; what < 6; what++) text.append(" told ").append(x.told(what));
    int frames = Math.min(Math.max(x.told(3), 0), 40);
    for (int k = 0; k <= frames; k++) row(text, " frame", k < frames ? 7 : 1, x, k);
    int events = Math.max(x.told(5), 0);
    for (int k = 0; k <= events; k++) row(text, " event", k < events ? 4 : 1, x, k);
    for (int what = 0; what < 4; what++) text.append(" count ").append(x.count(what));
    for (int user = 0; user < 4; user++) text.append(" user ").append(x.coins(1, user));
    text.append(" pot ").append(x.coins(2, 0));
    for (int c = 0; c < x.count(0); c++) contract(text, x, c);
    return text.toString();
  }

  private static void row(StringBuilder text, String kind, int columns, ContractFrames x, int k) {
    text.append(kind);
    for (int what = 0; what < columns; what++)
      text.append(' ').append(kind.equals(" frame") ? x.frame(k, what) : x.event(k, what));
  }

  private static void contract(StringBuilder text, ContractFrames x, int c) {
    text.append(" contract ").append(c).append(" coins ").append(x.coins(0, c)).append(" stores");
    for (int k = 0; k < 8; k++) text.append(' ').append(x.store(c, k));
    for (int m = 0; m < 4; m++) text.append(isGuarded(x, c, m) ? " guarded" : " open");
  }

  /** The guard is told only by setting it, so it is set to what it was. */
  private static boolean isGuarded(ContractFrames x, int c, int m) {
    int was = x.guard(c, m, true);
    if (was == 0) x.guard(c, m, false);
    return was == 1;
  }
}
