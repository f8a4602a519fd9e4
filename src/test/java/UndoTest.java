/** Promise 6: what a throw undoes, and what it does not. */
public final class UndoTest {
  private static final String WORK = "PUSH 8; SAVE 0; PUSH 1; TELL 2; PUSH 3; SEND 1; ";

  private static void caught() {
    Scene s = Scene.of(2).member(1, 0, WORK + "THROW 20");
    s.member(0, 0, "PUSH 5; SAVE 0; PUSH 6; TELL 7; PUSH 90; PUSH 40; PUSH 0; TRY 1 0; DROP; GIVE");
    s.gives(0, 0, 0, 100, 20);
    Due.is("store of the caller", s.x.store(0, 0), 5);
    Due.is("store of the thrower", s.x.store(1, 0), 0);
    Due.is("coins of the caller, with the VALUE", s.x.coins(0, 0), 100);
    Due.is("coins of the thrower", s.x.coins(0, 1), 0);
    Due.is("coins of user 1", s.x.coins(1, 1), 10000);
    Due.is("events", s.x.told(5), 1);
    Due.is("event", s.x.event(0, 1), 7);
    Due.is("used", s.x.told(1), 10 + 7);
    Due.is("user 0", s.x.coins(1, 0), 10000 - 100 - 17);
  }

  /** What a frame within gave is undone by the throw of the one around it. */
  private static void undoneWithin() {
    Scene s = Scene.of(3).member(2, 0, WORK + "PUSH 9; GIVE").member(1, 0, "PUSH 90; PUSH 30; PUSH 0; CALL 2 0; THROW 21");
    s.member(0, 0, "PUSH 90; PUSH 40; PUSH 0; TRY 1 0; DROP; GIVE");
    s.gives(0, 0, 0, 100, 21);
    Due.is("store", s.x.store(2, 0), 0);
    for (int c = 0; c < 3; c++) Due.is("coins of " + c, s.x.coins(0, c), c == 0 ? 100 : 0);
    Due.is("coins of user 1", s.x.coins(1, 1), 10000);
    Due.is("events", s.x.told(5), 0);
    Due.is("the frame within gave", s.x.frame(2, 5), 9);
    Due.is("it did not throw", s.x.frame(2, 4), 0);
    Due.is("used", s.x.told(1), 6 + 5 + 8);
  }

  /** What was done ahead of the frame that threw, and after it, stays. */
  private static void staysAround() {
    Scene s = Scene.of(2).member(1, 0, "ARGUMENT; SAVE 1; ARGUMENT; TELL 3; LOAD 1; SKIP 1; THROW 22");
    s.member(0, 0, "PUSH 90; PUSH 0; PUSH 0; CALL 1 0; PUSH 90; PUSH 10; PUSH 4; TRY 1 0; DROP; DROP; PUSH 7; TELL 5; "
        + "PUSH 90; PUSH 20; PUSH 0; CALL 1 0");
    s.gives(0, 0, 0, 50, 0);
    Due.is("store", s.x.store(1, 1), 0);
    Due.is("coins", s.x.coins(0, 1), 20);
    Due.is("events", s.x.told(5), 3);
    Due.is("event 0", s.x.event(0, 1), 3);
    Due.is("event 1", s.x.event(1, 1), 5);
    Due.is("event 2", s.x.event(2, 1), 3);
  }

  /** Saves that made a store 0 and were undone give nothing back, others do. */
  private static void undoneSaves() {
    Scene s = Scene.of(2).member(0, 0, "PUSH 5; SAVE 0; PUSH 90; PUSH 0; PUSH 5; CALL 1 0");
    s.member(1, 0, "ARGUMENT; SAVE 1; ARGUMENT; SAVE 2").gives(0, 0, 0, 0, 0);
    s.member(1, 1, "PUSH 0; SAVE 1; PUSH 0; SAVE 2; ARGUMENT; SKIP 1; THROW 23");
    s.member(0, 1, "PUSH 0; SAVE 0; PUSH 90; PUSH 0; ARGUMENT; TRY 1 1");
    s.gives(0, 1, 1, 0, 0);
    Due.is("back, of the caller alone", s.x.told(2), 1);
    Due.is("store 1", s.x.store(1, 1), 5);
    s.gives(0, 0, 0, 0, 0).gives(0, 1, 0, 0, 0);
    Due.is("back, of both", s.x.told(2), 3);
    Due.is("used", s.x.told(1), 12);
    Due.is("store 1", s.x.store(1, 1), 0);
  }

  /** Every store of every contract and every user's coins are put back. */
  private static void allIsPutBack() {
    for (int c = 0; c < 8; c++) {
      Scene s = Scene.of(8).member(c, 0, "PUSH 1; SEND 0; PUSH 2; SEND 1; PUSH 3; SEND 2; PUSH 4; SEND 3; THROW 25");
      s.member(c, 1, "PUSH 9; SAVE 0; PUSH 9; SAVE 1; PUSH 9; SAVE 2; PUSH 9; SAVE 3; PUSH 9; SAVE 4; PUSH 9; SAVE 5; "
          + "PUSH 9; SAVE 6; PUSH 9; SAVE 7; THROW 26");
      s.throwsOut(c, 0, 0, 40, 25).throwsOut(c, 1, 0, 40, 26);
      for (int k = 0; k < 8; k++) Due.is("store " + c + " " + k, s.x.store(c, k), 0);
      for (int user = 0; user < 4; user++) Due.is("user " + user, s.x.coins(1, user), user == 0 ? 10000 - 9 - 17 : 10000);
      Due.is("contract " + c, s.x.coins(0, c), 0);
    }
  }

  private static void throughAll() {
    Scene s = Scene.of(3).member(2, 0, WORK + "THROW 24").member(1, 0, "PUSH 8; SAVE 0; PUSH 90; PUSH 5; PUSH 0; CALL 2 0");
    s.member(0, 0, "PUSH 8; SAVE 0; PUSH 90; PUSH 5; PUSH 0; CALL 1 0").throwsOut(0, 0, 0, 10, 24);
    for (int c = 0; c < 3; c++) {
      Due.is("store of " + c, s.x.store(c, 0), 0);
      Due.is("coins of " + c, s.x.coins(0, c), 0);
      Due.is("thrown by frame " + c, s.x.frame(c, 4), 24);
    }
    Due.is("used", s.x.told(1), 6 + 6 + 7);
    Due.is("coins of all", s.allCoins(), 40000);
  }

  public static void main(String[] args) {
    caught();
    undoneWithin();
    staysAround();
    undoneSaves();
    allIsPutBack();
    throughAll();
    Due.end();
  }
}
