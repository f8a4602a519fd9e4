/** Promise 4. */
public final class EmptyTest {
  public static void main(String[] args) {
    Scene s = Scene.of(2).member(0, 1, "PUSH 1; GIVE").member(0, 2, "PUSH 2; GIVE").member(1, 1, "PUSH 3; GIVE");
    s.guarded(0, 1);
    Due.is("UNKNOWN", s.x.empty(2, 1), Scene.UNKNOWN);
    Due.is("UNKNOWN below", s.x.empty(-1, 1), Scene.UNKNOWN);
    Due.is("UNKNOWN ahead of OUTSIDE", s.x.empty(2, 4), Scene.UNKNOWN);
    Due.is("OUTSIDE", s.x.empty(0, 4), Scene.OUTSIDE);
    Due.is("OUTSIDE below", s.x.empty(0, -1), Scene.OUTSIDE);
    Due.is("count(3)", s.x.count(3), 6);
    Due.is("empty", s.x.empty(0, 1), 2);
    Due.is("empty once more", s.x.empty(0, 1), 0);
    Due.is("count(3)", s.x.count(3), 4);
    Due.is("a call of it", s.x.call(0, 0, 1, 0, 0, 9), Scene.STATE);
    Due.is("it stays guarded", s.x.guard(0, 1, true), 1);
    s.gives(0, 2, 0, 0, 2).gives(1, 1, 0, 0, 3);
    s.member(0, 1, "PUSH 4; GIVE").gives(0, 1, 0, 0, 4);
    Due.end();
  }
}
