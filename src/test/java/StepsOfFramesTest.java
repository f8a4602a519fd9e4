/** Promise 6: what each code does in a frame, and what the frame throws of itself. */
public final class StepsOfFramesTest {
  private static final String EIGHT = "PUSH 1; PUSH 2; PUSH 3; PUSH 4; PUSH 5; PUSH 6; PUSH 7; PUSH 8";

  private static void numbers() {
    Scene.gives("PUSH -2147483648; GIVE", 0, 0, Integer.MIN_VALUE);
    Scene.gives("ARGUMENT; GIVE", -77, 0, -77);
    Scene.gives("VALUE; GIVE", 0, 31, 31);
    Scene.gives("COINS; GIVE", 0, 31, 31);
    Scene.gives("CALLER; GIVE", 0, 0, 100);
    Scene s = Scene.of(3).member(2, 0, "SELF; GIVE").member(2, 1, "CALLER; GIVE");
    s.gives(2, 0, 0, 0, 2);
    Due.is("call of user 3", s.x.call(3, 2, 1, 0, 0, 9), 1);
    Due.is("CALLER of user 3", s.x.told(0), 103);
    Scene.gives("PUSH 9; SAVE 7; PUSH 4; SAVE 0; LOAD 7; GIVE", 0, 0, 9);
    Scene.gives("LOAD 3; GIVE", 0, 0, 0);
    Scene kept = Scene.ofSteps("ARGUMENT; COINS; GIVE");
    kept.gives(0, 0, 0, 10, 10).gives(0, 0, 0, 5, 15);
  }

  private static void sums() {
    Scene.gives("PUSH 7; PUSH 3; PLUS; GIVE", 0, 0, 10);
    Scene.gives("PUSH 7; PUSH 3; MINUS; GIVE", 0, 0, 4);
    Scene.gives("PUSH 7; PUSH 3; TIMES; GIVE", 0, 0, 21);
    Scene.gives("PUSH 7; PUSH 3; BY; GIVE", 0, 0, 2);
    Scene.gives("PUSH -7; PUSH 3; BY; GIVE", 0, 0, -2);
    Scene.gives("PUSH 7; PUSH 1; BY; GIVE", 0, 0, 7);
    Scene.gives("PUSH 7; PUSH -1; BY; GIVE", 0, 0, -7);
    Scene.gives("PUSH 7; PUSH -3; BY; GIVE", 0, 0, -2);
    Scene.gives("PUSH 2147483647; PUSH 1; PLUS; GIVE", 0, 0, Integer.MIN_VALUE);
    Scene.gives("PUSH -2147483648; PUSH 1; MINUS; GIVE", 0, 0, Integer.MAX_VALUE);
    Scene.gives("PUSH 65536; PUSH 65537; TIMES; GIVE", 0, 0, 65536);
    Scene.gives("PUSH -2147483648; PUSH -1; BY; GIVE", 0, 0, Integer.MIN_VALUE);
    Scene.throwsOut("PUSH 7; PUSH 0; BY; GIVE", 3);
    Scene.throwsOut("PUSH 0; PUSH 0; BY; GIVE", 3);
    Scene.throwsOut("PUSH 0; BY; GIVE", 8);
  }

  private static void comparisons() {
    Scene.gives("PUSH 3; PUSH 7; BELOW; GIVE", 0, 0, 1);
    Scene.gives("PUSH 7; PUSH 3; BELOW; GIVE", 0, 0, 0);
    Scene.gives("PUSH 7; PUSH 7; BELOW; GIVE", 0, 0, 0);
    Scene.gives("PUSH -2147483648; PUSH 2147483647; BELOW; GIVE", 0, 0, 1);
    Scene.gives("PUSH 7; PUSH 7; SAME; GIVE", 0, 0, 1);
    Scene.gives("PUSH 7; PUSH -7; SAME; GIVE", 0, 0, 0);
  }

  private static void skipAndBack() {
    Scene.gives("PUSH 1; PUSH 0; SKIP 1; GIVE; PUSH 2; GIVE", 0, 0, 2);
    Scene.gives("PUSH 1; PUSH 5; SKIP 1; GIVE; PUSH 2; GIVE", 0, 0, 1);
    Scene.gives("PUSH 0; SKIP 2; PUSH 1; GIVE; PUSH 2; GIVE", 0, 0, 2);
    Scene.gives("PUSH 0; SKIP 20; PUSH 1; GIVE", 0, 0, 0);
    Scene.gives("PUSH 0; SKIP 2; PUSH 1; GIVE", 0, 0, 0);
    Scene loop = Scene.ofSteps("LOAD 0; PUSH 1; PLUS; SAVE 0; LOAD 0; PUSH 5; BELOW; BACK 7; LOAD 0; GIVE");
    loop.gives(0, 0, 0, 0, 5);
    Due.is("steps of five rounds", loop.x.told(1), 42);
    Scene far = Scene.ofSteps("LOAD 0; PUSH 1; PLUS; SAVE 0; LOAD 0; PUSH 5; BELOW; BACK 20; LOAD 0; GIVE");
    far.gives(0, 0, 0, 0, 5);
    Due.is("steps of five rounds from the first", far.x.told(1), 42);
    Scene.gives("PUSH 9; PUSH 0; BACK 2; GIVE", 0, 0, 9);
    Scene short1 = Scene.ofSteps("PUSH 0; PUSH 3; ARGUMENT; LOAD 0; SAVE 1; PUSH 8; LOAD 0; BACK 1; GIVE");
    short1.gives(0, 0, 0, 0, 8);
    Scene ends = Scene.ofSteps("PUSH 1; BACK 1");
    ends.throwsOut(0, 0, 0, 0, 6);
    Due.is("used", ends.x.told(1), 1000);
  }

  private static void stackSteps() {
    Scene.gives("PUSH 4; PUSH 9; DOUBLE; PLUS; GIVE", 0, 0, 18);
    Scene.gives("PUSH 4; PUSH 9; DOUBLE; DROP; DROP; GIVE", 0, 0, 4);
    Scene.gives("PUSH 4; PUSH 9; DROP; GIVE", 0, 0, 4);
    Scene.gives("PUSH 4; PUSH 9; TURN; MINUS; GIVE", 0, 0, 5);
    Scene.gives("PUSH 4; PUSH 9; GIVE", 0, 0, 9);
    Scene.gives("PUSH 4", 0, 0, 0);
    Scene.gives(EIGHT + "; GIVE", 0, 0, 8);
    Scene.gives(EIGHT + "; TURN; GIVE", 0, 0, 7);
    Scene.gives(EIGHT + "; PLUS; GIVE", 0, 0, 15);
  }

  private static void tooLittleOrTooMuch() {
    for (String none : new String[] {"SAVE 0", "DOUBLE", "DROP", "SKIP 1", "BACK 1", "TELL 1", "SEND 0", "GIVE"})
      Scene.throwsOut(none, 8);
    for (String two : new String[] {"PLUS", "MINUS", "TIMES", "BY", "BELOW", "SAME", "TURN", "LOOK 7 0"}) {
      Scene.throwsOut(two, 8);
      Scene.throwsOut("PUSH 0; " + two, 8);
    }
    for (String three : new String[] {"CALL 7 0", "TRY 7 0"}) {
      Scene.throwsOut(three, 8);
      Scene.throwsOut("PUSH 0; PUSH 0; " + three, 8);
    }
    for (String more : new String[] {"PUSH 9", "ARGUMENT", "VALUE", "CALLER", "COINS", "SELF", "LOAD 0", "DOUBLE"})
      Scene.throwsOut(EIGHT + "; " + more, 8);
    Scene.throwsOut(EIGHT + "; THROW 17", 17);
  }

  /** These steps leave so many numbers: there is room for the rest of eight, and no more. */
  private static void leaves(String steps, int height) {
    String full = steps + "; PUSH 0".repeat(8 - height);
    Scene room = Scene.ofSteps(full).member(0, 1, "PUSH 5; GIVE").member(0, 2, "THROW 10");
    room.gives(0, 0, 0, 0, 0);
    Scene more = Scene.ofSteps(full + "; PUSH 0").member(0, 1, "PUSH 5; GIVE").member(0, 2, "THROW 10");
    more.throwsOut(0, 0, 0, 0, 8);
  }

  private static final String FIVE = "PUSH 1; PUSH 2; PUSH 3; PUSH 4; PUSH 5; ";

  /** Each code with just what it takes, and with as many numbers as may be. */
  private static void heights() {
    for (String code : new String[] {"PUSH 9", "ARGUMENT", "VALUE", "CALLER", "COINS", "SELF", "LOAD 0"}) {
      leaves(code, 1);
      leaves(FIVE + "PUSH 6; PUSH 7; " + code, 8);
    }
    for (String one : new String[] {"PUSH 0; SAVE 0", "PUSH 1; SKIP 1", "PUSH 0; BACK 1", "PUSH 0; DROP", "PUSH 0; TELL 1",
        "PUSH 0; SEND 1"}) {
      leaves(one, 0);
      leaves(FIVE + "PUSH 6; PUSH 7; " + one, 7);
    }
    leaves("PUSH 0; DOUBLE", 2);
    leaves(FIVE + "PUSH 6; PUSH 7; DOUBLE", 8);
    for (String code : new String[] {"PLUS", "MINUS", "TIMES", "BY", "BELOW", "SAME"}) {
      leaves("PUSH 1; PUSH 2; " + code, 1);
      leaves(EIGHT + "; " + code, 7);
    }
    leaves("PUSH 1; PUSH 2; TURN", 2);
    leaves(EIGHT + "; TURN", 8);
    for (String five : new String[] {"", FIVE}) {
      int below = five.isEmpty() ? 0 : 5;
      leaves(five + "PUSH 9; PUSH 0; PUSH 0; CALL 0 1", below + 1);
      leaves(five + "PUSH 9; PUSH 0; PUSH 0; TRY 0 1", below + 2);
      leaves(five + "PUSH 9; PUSH 0; PUSH 0; TRY 0 2", below + 2);
      leaves(five + "PUSH 9; PUSH 0; PUSH 0; TRY 7 0", below + 2);
      leaves(five + "PUSH 9; PUSH 0; LOOK 0 1", below + 1);
    }
    leaves(EIGHT + "; DROP; DROP; PUSH 9; PUSH 0; LOOK 0 1", 7);
  }

  private static void throwing() {
    Scene.throwsOut("THROW 10", 10);
    Scene.throwsOut("THROW 99", 99);
    Scene s = Scene.ofSteps("PUSH 1; PUSH 2; PUSH 3");
    Due.is("limit 3", s.x.call(0, 0, 0, 0, 0, 3), 1);
    Due.is("limit 2", s.x.call(0, 0, 0, 0, 0, 2), 0);
    Due.is("thrown", s.x.told(0), 6);
    Due.is("used", s.x.told(1), 2);
  }

  private static void sending() {
    Scene s = Scene.ofSteps("ARGUMENT; SEND 3; COINS; GIVE");
    s.gives(0, 0, 30, 30, 0);
    Due.is("user 3", s.x.coins(1, 3), 10030);
    s.gives(0, 0, 0, 10, 10);
    s.throwsOut(0, 0, 11, 0, 7).throwsOut(0, 0, -1, 0, 7).throwsOut(0, 0, Integer.MIN_VALUE, 0, 7);
    s.gives(0, 0, 10, 0, 0);
    Due.is("user 3", s.x.coins(1, 3), 10040);
    Due.is("coins of all", s.allCoins(), 40000);
  }

  /** A loop that tells ARGUMENT times. */
  private static void telling() {
    Scene s = Scene.ofSteps("LOAD 0; TELL 4; LOAD 0; PUSH 1; PLUS; DOUBLE; SAVE 0; ARGUMENT; BELOW; BACK 9; PUSH 0; SAVE 0");
    s.gives(0, 0, 60, 0, 0);
    Due.is("events", s.x.told(5), 60);
    Due.is("the last", s.x.event(59, 2), 59);
    s.throwsOut(0, 0, 61, 0, 9);
    Due.is("events", s.x.told(5), 0);
    s.gives(0, 0, 2, 0, 0);
    Due.is("events of that call alone", s.x.told(5), 2);
  }

  /** Events that were undone leave their room to others: 60 are told and undone, then 60 told that stay. */
  private static void tellingAfterUndoing() {
    String sixty = "PUSH 60; SAVE 0; LOAD 0; TELL 4; LOAD 0; PUSH 1; MINUS; DOUBLE; SAVE 0; BACK 7; ARGUMENT; SKIP 1; THROW 50";
    Scene s = Scene.of(2).member(1, 0, sixty);
    s.member(0, 0, "PUSH 490; PUSH 0; PUSH 1; TRY 1 0; PUSH 490; PUSH 0; PUSH 0; TRY 1 0; DROP; DROP; DROP; GIVE");
    s.gives(0, 0, 0, 0, 50);
    Due.is("events", s.x.told(5), 60);
    Due.is("the last", s.x.event(59, 2), 1);
  }

  public static void main(String[] args) {
    numbers();
    sums();
    comparisons();
    skipAndBack();
    stackSteps();
    tooLittleOrTooMuch();
    heights();
    throwing();
    sending();
    telling();
    tellingAfterUndoing();
    Due.end();
  }
}
