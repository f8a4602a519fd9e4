/** "Terms", part 3: what a user pays, what is given back, and that coins are never more nor less. */
public final class PayingTest {
  private static final int LEAST = Integer.MIN_VALUE, MOST = Integer.MAX_VALUE;

  private static void userIsTheFirstCaller() {
    Due.sentence("A USER calls a MEMBER (FRAME 1) with an ARGUMENT, a VALUE, a LIMIT. The VALUE goes along");
    for (int user = 0; user < 4; user++) {
      Scene s = Scene.of(8).member(7, 3, "CALLER; PUSH 1000; TIMES; VALUE; PLUS; ARGUMENT; PLUS; GIVE");
      Due.is("call", s.x.call(user, 7, 3, -5, 40, 90), 1);
      Due.is("given", s.x.told(0), (100 + user) * 1000 + 40 - 5);
      Due.is("depth", s.x.frame(0, 2), 1);
      Due.is("it does not only read", s.x.frame(0, 6), 0);
      Due.is("the contract", s.x.coins(0, 7), 40);
      Due.is("the user", s.x.coins(1, user), 10000 - 40 - 8);
      Due.is("the pot", s.x.coins(2, 0), 8);
    }
  }

  private static void usedNotLimit() {
    Due.sentence("USED is how many STEPS of LIMITS were used in all");
    Scene s = Scene.of(2).member(0, 0, "PUSH 500; PUSH 0; PUSH 0; CALL 1 0; GIVE").member(1, 0, "PUSH 1; GIVE");
    for (int limit : new int[] {7, 8, 1000}) {
      Due.is("limit " + limit, s.x.call(0, 0, 0, 0, 0, limit), 1);
      Due.is("used", s.x.told(1), 7);
    }
    Due.is("paid", s.x.coins(1, 0), 10000 - 21);
    Scene one = Scene.ofSteps("PUSH 1");
    Due.is("one step", one.x.call(0, 0, 0, 0, 0, 1), 1);
    Due.is("used", one.x.told(1), 1);
    Due.is("paid", one.x.coins(1, 0), 9999);
  }

  /** STORE 0 has been made the first number; then a save of the second gives so many back. */
  private static void back(int first, int second, int due) {
    Scene s = Scene.ofSteps("ARGUMENT; SAVE 0").gives(0, 0, first, 0, 0);
    Due.is("back for the first", s.x.told(2), 0);
    s.gives(0, 0, second, 0, 0);
    Due.is("back for " + first + " made " + second, s.x.told(2), due);
    Due.is("paid", s.x.coins(2, 0), 4 - due);
  }

  private static void savesThatCount() {
    Due.sentence("SAVES that made a STORE 0 that was not");
    back(0, 0, 0);
    for (int n : new int[] {LEAST, -1, 1, MOST}) {
      back(n, 0, 1);
      back(n, n, 0);
      back(0, n, 0);
      back(n, 2, 0);
    }
  }

  private static void eachStore() {
    Due.sentence("SAVES that made a STORE 0: of each STORE");
    for (int k = 0; k < 8; k++) {
      Scene s = Scene.ofSteps("ARGUMENT; SAVE " + k).gives(0, 0, 5, 0, 0).gives(0, 0, 0, 0, 0);
      Due.is("back for store " + k, s.x.told(2), 1);
      s.gives(0, 0, 0, 0, 0);
      Due.is("it is 0 already", s.x.told(2), 0);
    }
  }

  private static void ofThisCallAlone() {
    Due.sentence("SAVES of that call, not of one ahead of it");
    Scene s = Scene.ofSteps("ARGUMENT; SAVE 0; ARGUMENT; SAVE 1").member(0, 1, "PUSH 3; GIVE");
    s.gives(0, 0, 5, 0, 0).gives(0, 0, 0, 0, 0);
    Due.is("back", s.x.told(2), 2);
    s.gives(0, 1, 0, 0, 3);
    Due.is("back, of the next call", s.x.told(2), 0);
    Due.is("the pot", s.x.coins(2, 0), 4 + 2 + 2);
  }

  private static void doneAndNotUndone() {
    Due.sentence("how many were done and not undone");
    String two = "ARGUMENT; SAVE 0; ARGUMENT; SAVE 1; LOAD 7; SKIP 1; THROW 40";
    Scene s = Scene.of(2).member(1, 0, two).member(1, 1, "ARGUMENT; SAVE 7");
    s.member(0, 0, "PUSH 90; PUSH 0; PUSH 0; TRY 1 0; DROP; GIVE");
    s.gives(1, 0, 5, 0, 0).gives(1, 1, 1, 0, 0);
    s.gives(0, 0, 0, 0, 40);
    Due.is("undone", s.x.told(2), 0);
    Due.is("store 0", s.x.store(1, 0), 5);
    s.gives(1, 1, 0, 0, 0);
    Due.is("store 7 itself", s.x.told(2), 1);
    s.gives(0, 0, 0, 0, 0);
    Due.is("not undone", s.x.told(2), 2);
    Due.is("store 0", s.x.store(1, 0), 0);
  }

  /** The caller makes its own store 0 ahead of the frame that throws, and again another behind it. */
  private static void aroundAThrow() {
    Due.sentence("how many were done and not undone, around a FRAME that threw");
    Scene s = Scene.of(2).member(0, 0, "PUSH 5; SAVE 0; PUSH 5; SAVE 1; PUSH 90; PUSH 0; PUSH 5; CALL 1 0").member(1, 0, "ARGUMENT; SAVE 0");
    s.member(1, 1, "PUSH 0; SAVE 0; THROW 41");
    s.member(0, 1, "PUSH 0; SAVE 0; PUSH 90; PUSH 0; PUSH 0; TRY 1 1; PUSH 0; SAVE 1");
    s.gives(0, 0, 0, 0, 0).gives(0, 1, 0, 0, 0);
    Due.is("back", s.x.told(2), 2);
    Due.is("used", s.x.told(1), 8 + 3);
    Due.is("the other's store", s.x.store(1, 0), 5);
    Due.is("the pot", s.x.coins(2, 0), 10 + 11 - 2);
  }

  private static void deepSaves() {
    Due.sentence("SAVES that were done, by whatever FRAME");
    Scene s = Scene.ofSteps("ARGUMENT; SKIP 6; PUSH 900; PUSH 0; ARGUMENT; PUSH 1; MINUS; CALL 0 0; LOAD 0; SAVE 1; PUSH 0; SAVE 0");
    s.member(0, 1, "PUSH 5; SAVE 0; PUSH 5; SAVE 1").gives(0, 1, 0, 0, 0);
    s.gives(0, 0, 7, 0, 0);
    Due.is("deepest", s.x.told(4), 8);
    Due.is("back: store 0 by the eighth, store 1 by the seventh", s.x.told(2), 2);
  }

  /** Every SAVE takes what another STEP has put there, so more than half of USED can't be reached; half of it can. */
  private static void atMostHalf() {
    Due.sentence("but at most USED / 2 (cut)");
    for (int saves = 1; saves <= 8; saves++) {
      StringBuilder fill = new StringBuilder("PUSH 5; SAVE 0");
      StringBuilder zero = new StringBuilder("PUSH 0; SAVE 0");
      for (int k = 1; k < saves; k++) {
        fill.append("; PUSH 5; SAVE ").append(k);
        zero.append("; PUSH 0; SAVE ").append(k);
      }
      Scene s = Scene.ofSteps(fill.toString()).member(0, 1, zero.toString()).member(0, 2, zero + "; PUSH 0");
      s.gives(0, 0, 0, 0, 0).gives(0, 1, 0, 0, 0);
      Due.is("used", s.x.told(1), 2 * saves);
      Due.is("half", s.x.told(2), saves);
      s.gives(0, 0, 0, 0, 0).gives(0, 2, 0, 0, 0);
      Due.is("used", s.x.told(1), 2 * saves + 1);
      Due.is("half, cut", s.x.told(2), saves);
      Due.is("the pot", s.x.coins(2, 0), 2 * saves + saves + 2 * saves + saves + 1);
    }
  }

  private static void alsoWhenItThrew() {
    Due.sentence("He pays USED, also when it THREW (then there is none of these SAVES)");
    Scene s = Scene.ofSteps("ARGUMENT; SAVE 0").member(0, 1, "PUSH 0; SAVE 0; THROW 50").gives(0, 0, 5, 0, 0);
    s.throwsOut(0, 1, 0, 70, 50);
    Due.is("back", s.x.told(2), 0);
    Due.is("used", s.x.told(1), 3);
    Due.is("user 0", s.x.coins(1, 0), 10000 - 2 - 3);
    Due.is("the pot", s.x.coins(2, 0), 5);
    Due.is("the store", s.x.store(0, 0), 5);
    Due.is("the contract", s.x.coins(0, 0), 0);
    s.gives(0, 0, 0, 0, 0);
    Due.is("back, when it gives", s.x.told(2), 1);
  }

  private static void tillNothingIsLeft() {
    Due.sentence("the USER has less than VALUE and LIMIT together: just as much is enough, and may all be used");
    Scene s = Scene.ofSteps("PUSH 1; DROP; PUSH 1; BACK 3");
    Due.is("one too many", s.x.call(2, 0, 0, 0, 9991, 10), Scene.STATE);
    Due.is("just as many", s.x.call(2, 0, 0, 0, 9990, 10), 0);
    Due.is("the value is back", s.x.coins(1, 2), 9990);
    s.member(0, 1, "PUSH 1; PUSH 2");
    Due.is("just as many", s.x.call(2, 0, 1, 0, 9988, 2), 1);
    Due.is("nothing is left", s.x.coins(1, 2), 0);
    Due.is("the smallest call", s.x.call(2, 0, 1, 0, 0, 1), Scene.STATE);
    Due.is("another user", s.x.call(1, 0, 1, 0, 0, 2), 1);
    Due.is("coins of all", s.allCoins(), 40000);
  }

  private static void sentToHimself() {
    Due.sentence("what is sent to the USER who calls is his when he pays");
    Scene s = Scene.ofSteps("VALUE; SEND 0; COINS; GIVE").gives(0, 0, 0, 5000, 0);
    Due.is("user 0", s.x.coins(1, 0), 9996);
    Due.is("the pot", s.x.coins(2, 0), 4);
  }

  public static void main(String[] args) {
    userIsTheFirstCaller();
    usedNotLimit();
    savesThatCount();
    eachStore();
    ofThisCallAlone();
    doneAndNotUndone();
    aroundAThrow();
    deepSaves();
    atMostHalf();
    alsoWhenItThrew();
    tillNothingIsLeft();
    sentToHimself();
    Due.end();
  }
}
