/** Promise 7. */
public final class ToldTest {
  private static void told(Scene s, int... due) {
    for (int what = 0; what < 6; what++) Due.is("told(" + what + ")", s.x.told(what), due[what]);
  }

  public static void main(String[] args) {
    Scene s = Scene.of(2).member(0, 0, "PUSH 0; SAVE 0; PUSH 90; PUSH 0; PUSH 0; CALL 1 0; DOUBLE; TELL 1; GIVE");
    for (int what : new int[] {-1, 6, Integer.MAX_VALUE}) Due.is("told ahead of a call", s.x.told(what), Scene.OUTSIDE);
    for (int what = 0; what < 6; what++) Due.is("told ahead of a call", s.x.told(what), Scene.STATE);
    s.member(1, 0, "PUSH 3; TELL 2; PUSH -31; GIVE").member(0, 1, "PUSH 7; SAVE 0; PUSH 1; TELL 1; THROW 10");
    s.member(0, 2, "PUSH 7; SAVE 0");
    Due.is("refused", s.x.call(0, 1, 1, 0, 0, 9), Scene.STATE);
    Due.is("told after a refused call", s.x.told(0), Scene.STATE);
    s.gives(0, 2, 0, 0, 0).gives(0, 0, 0, 0, -31);
    told(s, -31, 13, 1, 2, 2, 2);
    Due.is("refused", s.x.call(0, 1, 1, 0, 0, 9), Scene.STATE);
    Due.is("refused", s.x.call(0, 1, 0, 0, 0, 0), Scene.OUTSIDE);
    s.x.empty(0, 0);
    s.x.contract();
    told(s, -31, 13, 1, 2, 2, 2);
    for (int what : new int[] {-1, 6, Integer.MIN_VALUE}) Due.is("told " + what, s.x.told(what), Scene.OUTSIDE);
    s.throwsOut(0, 1, 0, 0, 10);
    told(s, 10, 5, 0, 1, 1, 0);
    Due.end();
  }
}
