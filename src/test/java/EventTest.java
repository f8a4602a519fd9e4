/** Promise 9. */
public final class EventTest {
  private static void row(Scene s, int k, int... due) {
    for (int what = 0; what < 4; what++) Due.is("event(" + k + ", " + what + ")", s.x.event(k, what), due[what]);
  }

  public static void main(String[] args) {
    Scene s = Scene.of(3).member(1, 0, "PUSH 11; TELL 12; PUSH 90; PUSH 0; PUSH 0; CALL 2 0; PUSH -109; TELL -2147483648");
    Due.is("event ahead of a call", s.x.event(0, 0), Scene.NONE);
    Due.is("event ahead of a call, outside", s.x.event(0, 4), Scene.OUTSIDE);
    s.member(2, 0, "PUSH 90; PUSH 0; PUSH 0; TRY 0 0; PUSH 21; TELL 22").member(0, 0, "PUSH 31; TELL 32; THROW 33");
    s.member(0, 1, "PUSH 31; TELL 32; THROW 33").member(0, 2, "PUSH 1; GIVE");
    s.gives(1, 0, 0, 0, 0);
    row(s, 0, 1, 12, 11, 1);
    row(s, 1, 2, 22, 21, 2);
    row(s, 2, 1, Integer.MIN_VALUE, -109, 1);
    for (int k : new int[] {3, -1, 60, Integer.MAX_VALUE, Integer.MIN_VALUE}) Due.is("event " + k, s.x.event(k, 0), Scene.NONE);
    for (int what : new int[] {-1, 4, Integer.MAX_VALUE}) Due.is("event what " + what, s.x.event(0, what), Scene.OUTSIDE);
    Due.is("OUTSIDE ahead of NONE", s.x.event(3, 4), Scene.OUTSIDE);
    Due.is("refused", s.x.call(0, 0, 3, 0, 0, 9), Scene.STATE);
    row(s, 0, 1, 12, 11, 1);
    s.throwsOut(0, 1, 0, 0, 33);
    Due.is("event of a call that threw", s.x.event(0, 0), Scene.NONE);
    s.gives(1, 0, 0, 0, 0).gives(0, 2, 0, 0, 1);
    Due.is("event of the call ahead", s.x.event(0, 0), Scene.NONE);
    Due.end();
  }
}
