/** Promise 12. */
public final class CountTest {
  private static void counts(Scene s, int... due) {
    for (int what = 0; what < 4; what++) Due.is("count(" + what + ")", s.x.count(what), due[what]);
  }

  public static void main(String[] args) {
    Scene s = Scene.of(3);
    counts(s, 3, 0, 0, 0);
    s.member(0, 0, "PUSH 1; GIVE").member(2, 3, "PUSH 9; PUSH 0; PUSH 0; TRY 0 0; THROW 10");
    counts(s, 3, 0, 0, 7);
    s.gives(0, 0, 0, 0, 1).gives(0, 0, 0, 0, 1).throwsOut(2, 3, 0, 0, 10);
    counts(s, 3, 2, 1, 7);
    Due.is("refused", s.x.call(0, 1, 0, 0, 0, 9), Scene.STATE);
    Due.is("refused", s.x.step(0, 0, 26, 0, 0), Scene.OUTSIDE);
    counts(s, 3, 2, 1, 7);
    s.x.empty(2, 3);
    counts(s, 3, 2, 1, 2);
    for (int what : new int[] {-1, 4, Integer.MIN_VALUE, Integer.MAX_VALUE}) Due.is("count " + what, s.x.count(what), Scene.OUTSIDE);
    Due.end();
  }
}
