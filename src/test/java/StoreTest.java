/** Promise 10. */
public final class StoreTest {
  public static void main(String[] args) {
    Scene s = Scene.of(2).member(1, 0, "ARGUMENT; SAVE 7; PUSH 3; SAVE 0").member(0, 0, "ARGUMENT; SAVE 7; THROW 10");
    s.gives(1, 0, -101, 0, 0);
    Due.is("store(1, 7)", s.x.store(1, 7), -101);
    Due.is("store(1, 0)", s.x.store(1, 0), 3);
    for (int k = 1; k < 7; k++) Due.is("store(1, " + k + ")", s.x.store(1, k), 0);
    for (int k = 0; k < 8; k++) Due.is("store(0, " + k + ")", s.x.store(0, k), 0);
    s.throwsOut(0, 0, 5, 0, 10);
    Due.is("store(0, 7)", s.x.store(0, 7), 0);
    Due.is("store(1, 7)", s.x.store(1, 7), -101);
    for (int k : new int[] {-1, 8, Integer.MAX_VALUE, Integer.MIN_VALUE}) Due.is("store " + k, s.x.store(1, k), Scene.NONE);
    for (int c : new int[] {-1, 2, 8, Integer.MAX_VALUE}) Due.is("store of " + c, s.x.store(c, 0), Scene.UNKNOWN);
    Due.is("UNKNOWN ahead of NONE", s.x.store(2, 8), Scene.UNKNOWN);
    Due.end();
  }
}
