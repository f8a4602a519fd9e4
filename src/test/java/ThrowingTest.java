/** "Terms", part 2, the last paragraph: what a throw undoes, what stays, and who catches it. */
public final class ThrowingTest {
  /** Frames of contracts 0, 1, .., 7, each within the one ahead of it; each saves, tells and sends before it calls. */
  private static Scene chain(int catcher, String last) {
    Scene s = Scene.of(8);
    for (int c = 0; c < 7; c++) {
      String call = "PUSH 900; PUSH " + (70 - 10 * c) + "; PUSH 0; " + (c == catcher ? "TRY " : "CALL ") + (c + 1) + " 0; ";
      s.member(c, 0, work(c) + call + (c == catcher ? "DROP; GIVE" : "GIVE"));
    }
    return s.member(7, 0, work(7) + last);
  }

  private static String work(int c) {
    return "PUSH 7; SAVE " + c + "; PUSH 8; TELL " + (50 + c) + "; PUSH 1; SEND " + c % 4 + "; ";
  }

  /** What the contracts ahead of the one that is called by the catcher did stays; what the others did does not. */
  private static void undoneFromTheCatcherOn() {
    Due.sentence("When it THROWS, all STORES, COINS and EVENTS are as they were ahead of it (with its VALUE)");
    for (int catcher = 0; catcher < 7; catcher++) {
      Scene s = chain(catcher, "THROW 44").gives(0, 0, 0, 80, 44);
      Due.is("events", s.x.told(5), catcher + 1);
      for (int c = 0; c < 8; c++) {
        boolean stays = c <= catcher;
        Due.is("store of " + c, s.x.store(c, c), stays ? 7 : 0);
        Due.is("event of " + c, s.x.event(c, 1), stays ? 50 + c : Scene.NONE);
        Due.is("coins of " + c, s.x.coins(0, c), !stays ? 0 : c == catcher ? 79 - 10 * c : 9);
      }
      for (int user = 1; user < 4; user++)
        Due.is("user " + user, s.x.coins(1, user), 10000 + (user <= catcher ? 1 : 0) + (user + 4 <= catcher ? 1 : 0));
      Due.is("coins of all", s.allCoins(), 40000);
      Due.is("used", s.x.told(1), usedInAll(catcher));
    }
  }

  /** Each calls with its tenth step; the catcher does two more, those ahead of it one. The last one throws with its seventh. */
  private static int usedInAll(int catcher) {
    int used = 7;
    for (int c = 0; c < 7; c++) used += c < catcher ? 11 : c == catcher ? 12 : 10;
    return used;
  }

  private static void nothingThrown() {
    Due.sentence("When it does not throw, all of it stays");
    Scene s = chain(3, "PUSH 5; GIVE").gives(0, 0, 0, 80, 5);
    Due.is("events", s.x.told(5), 8);
    for (int c = 0; c < 8; c++) {
      Due.is("store of " + c, s.x.store(c, c), 7);
      Due.is("coins of " + c, s.x.coins(0, c), 9);
    }
  }

  private static void thrownOut() {
    Due.sentence("CALL and LOOK: when it THROWS, the caller THROWS the same");
    Scene s = chain(-1, "THROW 99").throwsOut(0, 0, 0, 80, 99);
    for (int k = 0; k < 8; k++) {
      Due.is("thrown by frame " + k, s.x.frame(k, 4), 99);
      Due.is("given by frame " + k, s.x.frame(k, 5), 0);
      Due.is("store of " + k, s.x.store(k, k), 0);
      Due.is("coins of " + k, s.x.coins(0, k), 0);
    }
    Due.is("events", s.x.told(5), 0);
    Due.is("used", s.x.told(1), 7 * 10 + 7);
    Due.is("user 0", s.x.coins(1, 0), 10000 - 77);
    Scene looks = Scene.of(3).member(0, 0, "PUSH 90; PUSH 0; LOOK 1 0; GIVE").member(1, 0, "PUSH 80; PUSH 0; LOOK 2 0; GIVE");
    looks.member(2, 0, "THROW 10").throwsOut(0, 0, 0, 0, 10);
    looks.x.empty(2, 0);
    looks.throwsOut(0, 0, 0, 0, 1);
    Due.is("the second throws it", looks.x.frame(1, 4), 1);
  }

  private static void usedStaysUsed() {
    Due.sentence("what it used stays used");
    Scene s = Scene.of(2).member(1, 0, "PUSH 1; PUSH 2; PUSH 3; THROW 20").member(0, 0, "PUSH 9; PUSH 0; PUSH 0; TRY 1 0; DROP; GIVE");
    Due.is("just enough", s.x.call(0, 0, 0, 0, 0, 10), 1);
    Due.is("used", s.x.told(1), 10);
    Due.is("used by the thrower", s.x.frame(1, 3), 4);
    Due.is("one less", s.x.call(0, 0, 0, 0, 0, 9), 0);
    Due.is("thrown", s.x.told(0), 6);
    Due.is("paid for both", s.x.coins(2, 0), 19);
  }

  private static void whatCallPuts() {
    Due.sentence("CALL and LOOK: what it gives is put on the stack");
    for (int n : new int[] {Integer.MIN_VALUE, -1, 0, 1, Integer.MAX_VALUE}) {
      Scene s = Scene.of(2).member(1, 0, "ARGUMENT; GIVE").member(0, 0, "PUSH 9; PUSH 0; ARGUMENT; CALL 1 0; GIVE");
      s.member(0, 1, "PUSH 9; ARGUMENT; LOOK 1 0; GIVE").gives(0, 0, n, 0, n).gives(0, 1, n, 0, n);
    }
    String two = "; DROP; DROP";
    Scene s = Scene.of(2).member(1, 0, "PUSH 1").member(0, 0, "PUSH 9; PUSH 0; PUSH 0; CALL 1 0" + two);
    s.member(0, 1, "PUSH 9; PUSH 0; LOOK 1 0" + two).throwsOut(0, 0, 0, 0, 8).throwsOut(0, 1, 0, 0, 8);
  }

  private static void whatTryPuts() {
    Due.sentence("TRY: what it gives, then 1, are put there; when it THROWS, what it threw, then 0");
    String all = "PUSH 99; PUSH 0; ARGUMENT; TRY 1 0; PUSH 1000; TIMES; PLUS; GIVE";
    Scene gives = Scene.of(2).member(0, 0, all).member(1, 0, "ARGUMENT; GIVE");
    for (int n : new int[] {-3, 0, 1, 99}) gives.gives(0, 0, n, 0, 1000 + n);
    for (int n : new int[] {10, 11, 98, 99}) Scene.of(2).member(0, 0, all).member(1, 0, "THROW " + n).gives(0, 0, 0, 0, n);
    for (int drops = 2; drops <= 3; drops++)
      for (String inner : new String[] {"PUSH 1", "THROW 10"}) {
        Scene s = Scene.of(2).member(0, 0, "PUSH 9; PUSH 0; PUSH 0; TRY 1 0" + "; DROP".repeat(drops)).member(1, 0, inner);
        if (drops == 2) s.gives(0, 0, 0, 0, 0);
        else s.throwsOut(0, 0, 0, 0, 8);
      }
  }

  /** What a frame throws of itself can be caught as well as what it throws by THROW. */
  private static void allCanBeCaught() {
    Due.sentence("TRY: when it THROWS, or can't be entered, what it threw, then 0");
    String[] inner = {"PUSH 9; PUSH 0; PUSH 0; CALL 7 0", "PUSH 9; PUSH 0; LOOK 0 1", "PUSH 1; PUSH 0; BY", "PUSH 9; PUSH 0; LOOK 0 0",
        null, "PUSH 1; BACK 1", "PUSH 1; SEND 0", "DROP", null};
    for (int number = 1; number <= 9; number++) {
      if (inner[number - 1] == null) continue;
      Scene s = Scene.of(2).member(0, 0, "PUSH 50; PUSH 0; PUSH 0; TRY 1 0; PUSH 1000; TIMES; PLUS; GIVE").member(0, 1, "PUSH 1; SAVE 0");
      s.guarded(0, 0).member(1, 0, inner[number - 1]).gives(0, 0, 0, 0, number);
    }
    Scene deep = Scene.of(2).member(0, 0, "PUSH 900; PUSH 0; PUSH 0; TRY 1 0; PUSH 1000; TIMES; PLUS; GIVE");
    deep.member(1, 0, "PUSH 900; PUSH 0; PUSH 0; CALL 1 0; GIVE").gives(0, 0, 0, 0, 5);
    Scene told = Scene.of(2).member(0, 0, "PUSH 900; PUSH 0; PUSH 0; TRY 1 0; PUSH 1000; TIMES; PLUS; GIVE");
    told.member(1, 0, "PUSH 1; TELL 1; PUSH 1; BACK 3").gives(0, 0, 0, 0, 9);
    Due.is("events", told.x.told(5), 0);
  }

  private static void membersAreNotUndone() {
    Due.sentence("a THROW leaves STEPS, guards and counts as they are");
    Scene s = Scene.of(2).member(0, 0, "PUSH 1; SAVE 0; THROW 30").guarded(0, 0).throwsOut(0, 0, 0, 0, 30);
    Due.is("contracts", s.x.count(0), 2);
    Due.is("calls that threw", s.x.count(2), 1);
    Due.is("steps", s.x.count(3), 3);
    Due.is("guard", s.x.guard(0, 0, true), 1);
    s.throwsOut(0, 0, 0, 0, 30);
    Due.is("calls that threw", s.x.count(2), 2);
  }

  public static void main(String[] args) {
    undoneFromTheCatcherOn();
    nothingThrown();
    thrownOut();
    usedStaysUsed();
    whatCallPuts();
    whatTryPuts();
    allCanBeCaught();
    membersAreNotUndone();
    Due.end();
  }
}
