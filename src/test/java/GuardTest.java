/** Promise 5; how a guarded member is kept from being entered again. */
public final class GuardTest {
  private static void answers() {
    Scene s = Scene.of(2);
    Due.is("UNKNOWN", s.x.guard(2, 0, true), Scene.UNKNOWN);
    Due.is("UNKNOWN below", s.x.guard(-1, 0, true), Scene.UNKNOWN);
    Due.is("UNKNOWN ahead of OUTSIDE", s.x.guard(2, 4, true), Scene.UNKNOWN);
    Due.is("OUTSIDE", s.x.guard(0, 4, true), Scene.OUTSIDE);
    Due.is("OUTSIDE below", s.x.guard(0, -1, true), Scene.OUTSIDE);
    Due.is("on", s.x.guard(0, 0, true), 0);
    Due.is("on again", s.x.guard(0, 0, true), 1);
    Due.is("off", s.x.guard(0, 0, false), 1);
    Due.is("off again", s.x.guard(0, 0, false), 0);
    Due.is("on", s.x.guard(0, 0, true), 0);
    Due.is("another member", s.x.guard(0, 1, false), 0);
    Due.is("another contract", s.x.guard(1, 0, false), 0);
  }

  private static final String CALL_1_0 = "PUSH 500; PUSH 0; PUSH 0; CALL 1 0; GIVE";
  private static final String CALL_0_1 = "PUSH 500; PUSH 0; PUSH 0; CALL 0 1; GIVE";

  /** 0 0 calls 1 0, and this 0 1, which gives 5. */
  private static Scene round() {
    return Scene.of(2).member(0, 0, CALL_1_0).member(1, 0, CALL_0_1).member(0, 1, "PUSH 5; GIVE");
  }

  private static void entering() {
    round().gives(0, 0, 0, 0, 5);
    round().guarded(0, 0).gives(0, 0, 0, 0, 5);
    round().guarded(0, 1).gives(0, 0, 0, 0, 5);
    round().guarded(0, 1).guarded(1, 0).gives(0, 0, 0, 0, 5);
    round().guarded(0, 0).guarded(0, 1).throwsOut(0, 0, 0, 0, 4).gives(0, 1, 0, 0, 5);
    round().guarded(0, 0).guarded(0, 1).guarded(1, 0).throwsOut(0, 0, 0, 0, 4).gives(1, 0, 0, 0, 5);
    Scene s = round().guarded(0, 0).guarded(0, 1).throwsOut(0, 0, 0, 0, 4);
    Due.is("frames entered", s.x.told(3), 2);
    s.x.guard(0, 0, false);
    s.gives(0, 0, 0, 0, 5);
  }

  /** A frame that has ended, by giving or by throwing, keeps nobody out. */
  private static void endedFrames() {
    String twice = "PUSH 50; PUSH 0; PUSH 0; TRY 1 0; DROP; PUSH 50; PUSH 0; PUSH 0; TRY 1 0; DROP; PLUS; GIVE";
    Scene.of(2).member(0, 0, twice).member(1, 0, "PUSH 5; GIVE").guarded(1, 0).gives(0, 0, 0, 0, 10);
    Scene.of(2).member(0, 0, twice).member(1, 0, "THROW 30").guarded(1, 0).gives(0, 0, 0, 0, 60);
  }

  private static void byLook() {
    Scene.of(1).member(0, 0, "PUSH 50; PUSH 0; LOOK 0 1; GIVE").member(0, 1, "PUSH 5; GIVE")
        .guarded(0, 0).guarded(0, 1).throwsOut(0, 0, 0, 0, 4);
  }

  public static void main(String[] args) {
    answers();
    entering();
    endedFrames();
    byLook();
    Due.end();
  }
}
