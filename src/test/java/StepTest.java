/** Promise 3. */
public final class StepTest {
  private static final int LEAST = Integer.MIN_VALUE, MOST = Integer.MAX_VALUE;

  /** Tests that a goes from lowest to highest, and that b is looked at only where b's bounds are told. */
  private static void bounds(int code, int lowest, int highest, boolean looksAtB) {
    ContractFrames x = new ContractFrames();
    x.contract();
    String name = "step " + Scene.CODES.get(code);
    Due.is(name + " lowest a", x.step(0, 0, code, lowest, 0), 1);
    Due.is(name + " highest a", x.step(0, 0, code, highest, 0), 2);
    if (lowest > LEAST) Due.is(name + " a below", x.step(0, 0, code, lowest - 1, 0), Scene.OUTSIDE);
    if (lowest > LEAST) Due.is(name + " a far below", x.step(0, 0, code, LEAST, 0), Scene.OUTSIDE);
    if (highest < MOST) Due.is(name + " a above", x.step(0, 0, code, highest + 1, 0), Scene.OUTSIDE);
    if (highest < MOST) Due.is(name + " a far above", x.step(0, 0, code, MOST, 0), Scene.OUTSIDE);
    Due.is(name + " b 3", x.step(0, 0, code, lowest, 3), 3);
    Due.is(name + " b 4", x.step(0, 0, code, lowest, 4), looksAtB ? Scene.OUTSIDE : 4);
    Due.is(name + " b -1", x.step(0, 0, code, lowest, -1), looksAtB ? Scene.OUTSIDE : 5);
    Due.is(name + " count(3)", x.count(3), looksAtB ? 3 : 5);
  }

  private static void boundsOfAllCodes() {
    for (int code = 0; code <= 25; code++) {
      String name = Scene.CODES.get(code);
      switch (name) {
        case "LOAD": case "SAVE": bounds(code, 0, 7, false); break;
        case "SKIP": case "BACK": bounds(code, 1, 20, false); break;
        case "CALL": case "TRY": case "LOOK": bounds(code, 0, 7, true); break;
        case "SEND": bounds(code, 0, 3, false); break;
        case "THROW": bounds(code, 10, 99, false); break;
        default: bounds(code, LEAST, MOST, false);
      }
    }
  }

  private static void room() {
    Scene s = Scene.of(2);
    for (int n = 1; n <= 20; n++) Due.is("step " + n, s.x.step(1, 3, 0, 0, 0), n);
    Due.is("step 21", s.x.step(1, 3, 0, 0, 0), Scene.ROOM);
    Due.is("OUTSIDE ahead of ROOM", s.x.step(1, 3, 6, 8, 0), Scene.OUTSIDE);
    Due.is("count(3)", s.x.count(3), 20);
    Due.is("another member", s.x.step(1, 2, 0, 0, 0), 1);
    Due.is("another contract", s.x.step(0, 3, 0, 0, 0), 1);
    Due.is("empty", s.x.empty(1, 3), 20);
    Due.is("step after empty", s.x.step(1, 3, 0, 0, 0), 1);
  }

  private static void refusals() {
    Scene s = Scene.of(1);
    Due.is("no contract", s.x.step(1, 0, 0, 0, 0), Scene.UNKNOWN);
    Due.is("contract -1", s.x.step(-1, 0, 0, 0, 0), Scene.UNKNOWN);
    Due.is("UNKNOWN ahead of OUTSIDE", s.x.step(1, 4, 26, 0, 0), Scene.UNKNOWN);
    for (int n : new int[] {-1, 4, LEAST, MOST}) Due.is("member " + n, s.x.step(0, n, 0, 0, 0), Scene.OUTSIDE);
    for (int n : new int[] {-1, 26, LEAST, MOST}) Due.is("code " + n, s.x.step(0, 0, n, 0, 0), Scene.OUTSIDE);
    Due.is("a CALL of a contract that is not yet", s.x.step(0, 0, 19, 7, 0), 1);
    Due.is("count(3)", s.x.count(3), 1);
  }

  public static void main(String[] args) {
    boundsOfAllCodes();
    room();
    refusals();
    Due.end();
  }
}
