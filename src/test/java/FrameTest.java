/** Promise 8. */
public final class FrameTest {
  private static void row(Scene s, int k, int... due) {
    for (int what = 0; what < 7; what++) Due.is("frame(" + k + ", " + what + ")", s.x.frame(k, what), due[what]);
  }

  private static void rows() {
    Scene s = Scene.of(3);
    s.member(0, 2, "PUSH 90; PUSH 0; PUSH 0; TRY 1 3; PUSH 90; PUSH 0; LOOK 2 1; PUSH 90; PUSH 0; PUSH 0; TRY 0 0; THROW 12");
    s.member(1, 3, "PUSH 80; PUSH 0; PUSH 0; CALL 2 0; GIVE").member(2, 0, "PUSH 1; THROW 13");
    s.member(2, 1, "PUSH 80; PUSH 0; PUSH 0; CALL 2 2; GIVE").member(2, 2, "PUSH -4; GIVE");
    s.throwsOut(0, 2, 0, 0, 12);
    row(s, 0, 0, 2, 1, 12 + 6 + 7, 12, 0, 0);
    row(s, 1, 1, 3, 2, 6, 13, 0, 0);
    row(s, 2, 2, 0, 3, 2, 13, 0, 0);
    row(s, 3, 2, 1, 2, 7, 0, -4, 1);
    row(s, 4, 2, 2, 3, 2, 0, -4, 1);
    Due.is("entered", s.x.told(3), 5);
    for (int k : new int[] {5, 39, 40, -1, Integer.MIN_VALUE, Integer.MAX_VALUE}) Due.is("frame " + k, s.x.frame(k, 0), Scene.NONE);
    for (int what : new int[] {-1, 7, Integer.MIN_VALUE}) Due.is("frame what " + what, s.x.frame(0, what), Scene.OUTSIDE);
    Due.is("OUTSIDE ahead of NONE", s.x.frame(5, 7), Scene.OUTSIDE);
    s.gives(2, 2, 0, 0, -4);
    row(s, 0, 2, 2, 1, 2, 0, -4, 0);
    s.throwsOut(2, 0, 0, 0, 13);
    row(s, 0, 2, 0, 1, 2, 13, 0, 0);
    Due.is("frame 1 of the later call", s.x.frame(1, 0), Scene.NONE);
    Due.is("refused", s.x.call(0, 0, 3, 0, 0, 9), Scene.STATE);
    Due.is("frame 0 is still there", s.x.frame(0, 0), 2);
  }

  /** STORE 0 counts down from ARGUMENT, with a frame in each round. */
  private static void firstForty() {
    Scene s = Scene.of(2).member(1, 0, "ARGUMENT; GIVE");
    s.member(0, 0, "ARGUMENT; SAVE 0; PUSH 9; PUSH 0; LOAD 0; CALL 1 0; PUSH 1; MINUS; DOUBLE; SAVE 0; BACK 8; PUSH 1; GIVE");
    s.gives(0, 0, 38, 0, 1);
    Due.is("entered", s.x.told(3), 39);
    Due.is("frame 38", s.x.frame(38, 5), 1);
    Due.is("frame 39", s.x.frame(39, 0), Scene.NONE);
    s.gives(0, 0, 50, 0, 1);
    Due.is("entered", s.x.told(3), 51);
    Due.is("frame 1", s.x.frame(1, 5), 50);
    Due.is("frame 39", s.x.frame(39, 5), 12);
    Due.is("frame 40", s.x.frame(40, 5), Scene.NONE);
    Due.is("frame 50", s.x.frame(50, 5), Scene.NONE);
  }

  public static void main(String[] args) {
    Scene s = Scene.of(1);
    Due.is("frame ahead of a call", s.x.frame(0, 0), Scene.NONE);
    Due.is("frame ahead of a call, outside", s.x.frame(0, 7), Scene.OUTSIDE);
    rows();
    firstForty();
    Due.end();
  }
}
