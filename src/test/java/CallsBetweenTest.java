/** Promise 6: how frames call frames: what goes along, what keeps them from being entered, limits, only reading. */
public final class CallsBetweenTest {
  private static void whatGoesAlong() {
    Scene s = Scene.of(3).member(1, 0, "ARGUMENT; GIVE").member(1, 1, "VALUE; GIVE").member(1, 2, "CALLER; GIVE");
    s.member(1, 3, "COINS; PUSH 100; TIMES; SELF; PLUS; GIVE");
    for (int m = 0; m < 4; m++) s.member(2, m, "PUSH 90; PUSH 20; PUSH 10; CALL 1 " + m + "; GIVE");
    s.gives(2, 0, 7, 80, 10).gives(2, 1, 7, 0, 20).gives(2, 2, 7, 0, 2).gives(2, 3, 7, 0, 8001);
    Due.is("coins of the caller", s.x.coins(0, 2), 0);
    Due.is("coins of the other", s.x.coins(0, 1), 80);
    s.x.empty(2, 0);
    s.member(2, 0, "PUSH 90; PUSH 10; LOOK 1 0; GIVE").gives(2, 0, 7, 0, 10);
    s.x.empty(2, 1);
    s.member(2, 1, "PUSH 5; PUSH 90; PUSH 10; LOOK 1 1; PLUS; GIVE").gives(2, 1, 7, 30, 5);
    s.x.empty(2, 2);
    s.member(2, 2, "PUSH 90; PUSH 30; PUSH 10; CALL 2 3; GIVE");
    s.x.empty(2, 3);
    s.member(2, 3, "COINS; GIVE").gives(2, 2, 0, 0, 30);
    Due.is("a value to itself", s.x.coins(0, 2), 30);
  }

  private static void answersOfTry() {
    Scene s = Scene.of(2).member(1, 0, "PUSH 44; GIVE").member(1, 1, "THROW 55").member(1, 2, "PUSH 44");
    String rest = "; PUSH 1000; TIMES; PLUS; GIVE";
    s.member(0, 0, "PUSH 90; PUSH 0; PUSH 0; TRY 1 0" + rest).gives(0, 0, 0, 0, 1044);
    s.member(0, 1, "PUSH 90; PUSH 0; PUSH 0; TRY 1 1" + rest).gives(0, 1, 0, 0, 55);
    s.member(0, 2, "PUSH 90; PUSH 0; PUSH 0; TRY 1 2" + rest).gives(0, 2, 0, 0, 1000);
    s.member(0, 3, "PUSH 90; PUSH 0; PUSH 0; TRY 1 3" + rest).gives(0, 3, 0, 0, 1);
    Scene t = Scene.of(2).member(1, 0, "THROW 55").member(0, 0, "PUSH 90; PUSH 0; PUSH 0; CALL 1 0; PUSH 1; GIVE");
    t.member(0, 1, "PUSH 90; PUSH 0; LOOK 1 0; PUSH 1; GIVE").member(0, 2, "PUSH 90; PUSH 0; LOOK 1 1; PUSH 1; GIVE");
    t.throwsOut(0, 0, 0, 0, 55).throwsOut(0, 1, 0, 0, 55).throwsOut(0, 2, 0, 0, 1);
  }

  private static void noSuchMember() {
    Scene s = Scene.of(2).member(0, 0, "PUSH 90; PUSH 0; PUSH 0; CALL 7 0").member(0, 1, "PUSH 90; PUSH 0; PUSH 0; CALL 1 3");
    s.throwsOut(0, 0, 0, 0, 1).throwsOut(0, 1, 0, 0, 1);
    Due.is("frames entered", s.x.told(3), 1);
    s.member(1, 3, "PUSH 1").gives(0, 1, 0, 0, 0);
    Due.is("frames entered", s.x.told(3), 2);
  }

  /** ARGUMENT is how many frames are still to be entered. */
  private static final String DEEPER = "ARGUMENT; SKIP 6; PUSH 900; PUSH 0; ARGUMENT; PUSH 1; MINUS; CALL 0 0";

  private static void depth() {
    Scene s = Scene.ofSteps(DEEPER);
    s.gives(0, 0, 7, 0, 0);
    Due.is("deepest", s.x.told(4), 8);
    s.throwsOut(0, 0, 8, 0, 5);
    Due.is("deepest", s.x.told(4), 8);
    Due.is("entered", s.x.told(3), 8);
  }

  /** The eighth frame has all faults that one step can have: which is told, as one after the other is mended. */
  private static void orderOfFaults() {
    Scene s = Scene.of(2).member(0, 0, "ARGUMENT; SKIP 7; PUSH 900; PUSH 0; ARGUMENT; PUSH 1; MINUS; CALL 0 0; GIVE; "
        + "PUSH 900; PUSH 1; PUSH 0; CALL 1 0; GIVE");
    s.throwsOut(0, 0, 7, 0, 1);
    s.member(1, 0, "PUSH 3; GIVE").throwsOut(0, 0, 7, 0, 5).throwsOut(0, 0, 6, 0, 7).gives(0, 0, 6, 1, 3);

    Scene again = Scene.of(1).member(0, 0, "PUSH 900; PUSH 0; LOOK 0 1; GIVE");
    again.member(0, 1, "PUSH 900; PUSH 1; PUSH 0; CALL 0 2; GIVE").member(0, 2, "PUSH 3; GIVE");
    again.guarded(0, 0).guarded(0, 2).throwsOut(0, 0, 0, 0, 4);
    again.x.guard(0, 0, false);
    again.throwsOut(0, 0, 0, 0, 2).throwsOut(0, 1, 0, 0, 7).gives(0, 1, 0, 1, 3);

    Scene deepAndGuarded = Scene.ofSteps(DEEPER);
    deepAndGuarded.member(0, 1, "PUSH 900; PUSH 0; PUSH 6; CALL 0 0").guarded(0, 1);
    deepAndGuarded.x.empty(0, 0);
    deepAndGuarded.member(0, 0, "ARGUMENT; SKIP 7; PUSH 900; PUSH 0; ARGUMENT; PUSH 1; MINUS; CALL 0 0; GIVE; "
        + "PUSH 900; PUSH -1; PUSH 0; CALL 0 1");
    deepAndGuarded.throwsOut(0, 1, 0, 0, 5);
    Scene t = Scene.ofSteps("PUSH 900; PUSH -1; PUSH 0; CALL 0 0").guarded(0, 0);
    t.throwsOut(0, 0, 0, 0, 4);
    t.x.guard(0, 0, false);
    t.throwsOut(0, 0, 0, 0, 7);
  }

  private static void values() {
    Scene s = Scene.of(2).member(0, 0, "PUSH 900; ARGUMENT; PUSH 0; CALL 1 0; GIVE").member(1, 0, "COINS; GIVE");
    s.gives(0, 0, 50, 50, 50).gives(0, 0, 0, 20, 50).throwsOut(0, 0, 21, 0, 7).throwsOut(0, 0, -1, 0, 7).gives(0, 0, 20, 0, 70);
    s.throwsOut(0, 0, Integer.MIN_VALUE, 0, 7);
    Due.is("coins of all", s.allCoins(), 40000);
  }

  /** 0 0 tries 1 0 with LIMIT ARGUMENT; 1 0 has four steps. */
  private static void limits() {
    Scene s = Scene.of(2).member(0, 0, "ARGUMENT; PUSH 0; PUSH 0; TRY 1 0; DROP; GIVE");
    s.member(1, 0, "PUSH 1; PUSH 2; PUSH 3; GIVE");
    s.gives(0, 0, 4, 0, 3);
    Due.is("used", s.x.told(1), 10);
    s.gives(0, 0, 3, 0, 6);
    Due.is("used", s.x.told(1), 9);
    Due.is("of the inner", s.x.frame(1, 3), 3);
    s.gives(0, 0, 0, 0, 6);
    Due.is("used", s.x.told(1), 6);
    Due.is("entered", s.x.told(3), 2);
    s.gives(0, 0, -5, 0, 6);
    Due.is("used", s.x.told(1), 6);
    s.gives(0, 0, Integer.MAX_VALUE, 0, 3);
    Due.is("used", s.x.told(1), 10);
    Due.is("limit 10", s.x.call(0, 0, 0, 900, 0, 10), 1);
    Due.is("limit 9", s.x.call(0, 0, 0, 900, 0, 9), 0);
    Due.is("thrown by the caller", s.x.frame(0, 4), 6);
    Due.is("given by the inner", s.x.frame(1, 5), 3);
    Due.is("limit 7", s.x.call(0, 0, 0, 900, 0, 7), 0);
    Due.is("thrown by the inner", s.x.frame(1, 4), 6);
    Due.is("of the inner", s.x.frame(1, 3), 3);
    Due.is("used", s.x.told(1), 7);
    Due.is("limit 4", s.x.call(0, 0, 0, 900, 0, 4), 0);
    Due.is("of the inner", s.x.frame(1, 3), 0);
  }

  private static void onlyReading() {
    Scene s = Scene.of(3).member(0, 0, "PUSH 500; ARGUMENT; LOOK 1 0; GIVE").member(0, 1, "PUSH 500; ARGUMENT; LOOK 1 1; GIVE");
    s.member(0, 2, "PUSH 500; ARGUMENT; LOOK 1 2; GIVE").member(0, 3, "PUSH 500; ARGUMENT; LOOK 1 3; GIVE");
    s.member(1, 0, "PUSH 1; SAVE 0").member(1, 1, "PUSH 1; TELL 0").member(1, 2, "PUSH -1; SEND 0");
    s.member(1, 3, "PUSH 300; PUSH 0; PUSH 0; CALL 2 0; GIVE").member(2, 0, "PUSH 1; SAVE 0; PUSH 6; GIVE");
    s.throwsOut(0, 0, 0, 0, 2).throwsOut(0, 1, 0, 0, 2).throwsOut(0, 2, 0, 0, 2);
    s.throwsOut(0, 3, 0, 0, 2);
    Due.is("the third frame only reads", s.x.frame(2, 6), 1);
    s.gives(1, 3, 0, 0, 6);
    Due.is("by a CALL it does not", s.x.frame(1, 6), 0);
    s.gives(1, 0, 0, 0, 0);
    Due.is("the store", s.x.store(1, 0), 1);
    s.x.empty(1, 0);
    s.member(1, 0, "LOAD 0; COINS; PLUS; ARGUMENT; PLUS; GIVE").gives(0, 0, 5, 0, 6);
    s.x.empty(1, 0);
    s.member(1, 0, "SAVE 0").throwsOut(0, 0, 0, 0, 8);
  }

  /** After a LOOK the caller may write again, and a frame at that depth too. */
  private static void writingAfterLook() {
    Scene s = Scene.of(2).member(1, 0, "PUSH 4; GIVE").member(1, 1, "PUSH 8; SAVE 1");
    s.member(0, 0, "PUSH 50; PUSH 0; LOOK 1 0; SAVE 0; PUSH 50; PUSH 0; PUSH 0; CALL 1 1; GIVE").gives(0, 0, 0, 0, 0);
    Due.is("store of the caller", s.x.store(0, 0), 4);
    Due.is("store of the other", s.x.store(1, 1), 8);
  }

  public static void main(String[] args) {
    whatGoesAlong();
    answersOfTry();
    noSuchMember();
    depth();
    orderOfFaults();
    values();
    limits();
    onlyReading();
    writingAfterLook();
    Due.end();
  }
}
