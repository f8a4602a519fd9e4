/** "Terms", part 1: coins, stores, members and what each code does at the edges of its numbers. */
public final class PartOneTest {
  private static final int LEAST = Integer.MIN_VALUE, MOST = Integer.MAX_VALUE;

  private static void contractsAndUsers() {
    Due.sentence("CONTRACTS 0, 1, .., 8 at most, USERS 0 to 3");
    ContractFrames x = new ContractFrames();
    for (int c = 0; c < 8; c++) Due.is("contract " + c, x.contract(), c);
    Due.is("contract 8", x.contract(), Scene.ROOM);
    for (int c : new int[] {0, 7}) Due.is("step of contract " + c, x.step(c, 0, 0, 1, 0), 1);
    for (int c : new int[] {-1, 8}) Due.is("step of contract " + c, x.step(c, 0, 0, 1, 0), Scene.UNKNOWN);
    for (int user : new int[] {0, 3}) Due.is("call by user " + user, x.call(user, 7, 0, 0, 0, 1), 1);
    for (int user : new int[] {-1, 4}) Due.is("call by user " + user, x.call(user, 7, 0, 0, 0, 1), Scene.UNKNOWN);
  }

  private static void firstCoins() {
    Due.sentence("a USER has 10000 at first, a CONTRACT 0, THE POT 0");
    for (int user = 0; user < 4; user++) {
      Scene s = Scene.ofSteps("COINS; GIVE");
      Due.is("user " + user, s.x.coins(1, user), 10000);
      Due.is("10001 are too many", s.x.call(user, 0, 0, 0, 9001, 1000), Scene.STATE);
      Due.is("10000 are not", s.x.call(user, 0, 0, 0, 9000, 1000), 1);
      Due.is("the contract had none", s.x.told(0), 9000);
    }
    Scene s = Scene.of(8);
    for (int c = 0; c < 8; c++) Due.is("contract " + c, s.x.coins(0, c), 0);
    Due.is("the pot", s.x.coins(2, 0), 0);
  }

  private static void stores() {
    Due.sentence("A CONTRACT has STORES 0 to 7, 0 at first");
    Scene s = Scene.of(8);
    for (int c = 0; c < 8; c++) {
      s.member(c, 0, "LOAD 0; LOAD 1; PLUS; LOAD 2; PLUS; LOAD 3; PLUS; LOAD 4; PLUS; LOAD 5; PLUS; LOAD 6; PLUS; LOAD 7; PLUS; GIVE");
      s.gives(c, 0, 0, 0, 0);
      s.member(c, 1, "PUSH " + (10 * c + 1) + "; SAVE 0; PUSH " + (10 * c + 8) + "; SAVE 7");
    }
    for (int c = 0; c < 8; c++) s.gives(c, 1, 0, 0, 0);
    for (int c = 0; c < 8; c++) {
      Due.is("the first of " + c, s.x.store(c, 0), 10 * c + 1);
      Due.is("the second of " + c, s.x.store(c, 1), 0);
      Due.is("the last but one of " + c, s.x.store(c, 6), 0);
      Due.is("the last of " + c, s.x.store(c, 7), 10 * c + 8);
      Due.is("behind the last of " + c, s.x.store(c, 8), Scene.NONE);
      Due.is("ahead of the first of " + c, s.x.store(c, -1), Scene.NONE);
      s.gives(c, 0, 0, 0, 20 * c + 9);
    }
  }

  private static void members() {
    Due.sentence("MEMBERS 0 to 3: each a row of STEPS, 20 at most, none at first");
    for (int m : new int[] {0, 3}) {
      Scene s = Scene.of(2);
      Due.is("none at first", s.x.call(0, 1, m, 0, 0, 99), Scene.STATE);
      s.member(1, m, "PUSH 1; DROP; PUSH 2; DROP; PUSH 3; DROP; PUSH 4; DROP; PUSH 5; DROP; PUSH 6; DROP; PUSH 7; DROP; "
          + "PUSH 8; DROP; PUSH 9; DROP; PUSH 31");
      s.gives(1, m, 0, 0, 0);
      s.x.empty(1, m);
      s.member(1, m, "PUSH 1; DROP; PUSH 2; DROP; PUSH 3; DROP; PUSH 4; DROP; PUSH 5; DROP; PUSH 6; DROP; PUSH 7; DROP; "
          + "PUSH 8; DROP; PUSH 9; DROP; PUSH 31; GIVE");
      Due.is("the 21st", s.x.step(1, m, 25, 10, 0), Scene.ROOM);
      s.gives(1, m, 0, 0, 31);
      Due.is("all twenty are done", s.x.told(1), 20);
    }
    Scene s = Scene.of(1);
    for (int m : new int[] {-1, 4}) Due.is("member " + m, s.x.step(0, m, 0, 0, 0), Scene.OUTSIDE);
  }

  private static void onlyOneFull() {
    Due.sentence("20 STEPS at most, of each MEMBER by itself");
    Scene s = Scene.of(2);
    for (int c = 0; c < 2; c++)
      for (int m = 0; m < 4; m++)
        for (int n = 1; n <= 20; n++) Due.is("step " + n + " of " + c + " " + m, s.x.step(c, m, 0, 0, 0), n);
    for (int c = 0; c < 2; c++)
      for (int m = 0; m < 4; m++) Due.is("step 21 of " + c + " " + m, s.x.step(c, m, 0, 0, 0), Scene.ROOM);
    Due.is("steps of all", s.x.count(3), 160);
  }

  private static void guardedAtFirst() {
    Due.sentence("it may be GUARDED");
    Scene s = Scene.of(1).member(0, 0, "PUSH 50; PUSH 0; PUSH 0; TRY 0 0; GIVE");
    s.gives(0, 0, 0, 0, 1);
    s.guarded(0, 0).gives(0, 0, 0, 0, 0);
  }

  private static void codes() {
    Due.sentence("A STEP has a code: 0 to 25");
    for (int code : new int[] {-1, 26}) Due.is("code " + code, Scene.of(1).x.step(0, 0, code, 10, 0), Scene.OUTSIDE);
    for (int code = 0; code <= 25; code++) {
      int a = code == 25 ? 10 : 1;
      Due.is("code " + code, Scene.of(1).x.step(0, 0, code, a, 0), 1);
    }
  }

  /** A member of these codes, each with this a and b (but for PUSH, whose a is 7), called by user 2, gives this. */
  private static void givesWith(int odd, int due, int... codes) {
    ContractFrames x = new ContractFrames();
    x.contract();
    for (int i = 0; i < codes.length; i++)
      Due.is("code " + codes[i] + " with " + odd, x.step(0, 0, codes[i], codes[i] == 0 ? 7 : odd, odd), i + 1);
    Due.is("call", x.call(2, 0, 0, 3, 5, 90), 1);
    Due.is("given with " + odd, x.told(0), due);
  }

  private static void notLookedAt() {
    Due.sentence("what its code does not name is not looked at");
    for (int odd : new int[] {-1, 0, 8, 100, LEAST, MOST}) {
      givesWith(odd, 2, 0, 1, 2, 3, 4, 5, 8, 9, 10, 16, 18, 12, 17, 11, 24);
      givesWith(odd, 1, 1, 16, 13, 24);
    }
    int[][] steps = {{0, 6}, {7, 7}, {0, 0}, {14, 1}, {25, 10}, {0, 0}, {15, 1}, {0, 5}, {22, 8}, {0, 0}, {23, 3}, {6, 7}, {24, 0}};
    for (int odd : new int[] {-1, 4, LEAST, MOST}) {
      ContractFrames x = new ContractFrames();
      x.contract();
      for (int i = 0; i < steps.length; i++) Due.is("b " + odd, x.step(0, 0, steps[i][0], steps[i][1], odd), i + 1);
      Due.is("call", x.call(2, 0, 0, 3, 5, 90), 1);
      Due.is("given with b " + odd, x.told(0), 6);
      Due.is("told with b " + odd, x.event(0, 1), 8);
    }
  }

  private static void callers() {
    Due.sentence("CALLER (its number; of a USER u 100 + u)");
    Scene s = Scene.of(8).member(0, 0, "CALLER; GIVE");
    for (int user = 0; user < 4; user++) {
      Due.is("call", s.x.call(user, 0, 0, 0, 0, 9), 1);
      Due.is("user " + user, s.x.told(0), 100 + user);
    }
    for (int c = 0; c < 8; c++) s.member(c, 1, "PUSH 9; PUSH 0; PUSH 0; CALL 0 0; GIVE").gives(c, 1, 0, 0, c);
  }

  private static void selfAndCoins() {
    Due.sentence("COINS (of its CONTRACT). SELF (its CONTRACT's number)");
    Scene s = Scene.of(8);
    for (int c = 0; c < 8; c++) s.member(c, 0, "SELF; GIVE").member(c, 1, "COINS; GIVE");
    for (int c = 0; c < 8; c++) s.gives(c, 0, 0, c + 1, c).gives(c, 1, 0, 0, c + 1);
  }

  private static void wrapping() {
    Due.sentence("Numbers are of 32 bits, wrapping");
    pair("PLUS", MOST - 1, 1, MOST);
    pair("PLUS", MOST, 1, LEAST);
    pair("PLUS", LEAST + 1, -1, LEAST);
    pair("PLUS", LEAST, -1, MOST);
    pair("MINUS", LEAST + 1, 1, LEAST);
    pair("MINUS", LEAST, 1, MOST);
    pair("MINUS", MOST - 1, -1, MOST);
    pair("MINUS", MOST, -1, LEAST);
    pair("MINUS", 0, LEAST, LEAST);
    pair("TIMES", 46340, 46340, 2147395600);
    pair("TIMES", 46341, 46341, -2147479015);
    pair("TIMES", 65536, 65536, 0);
    pair("TIMES", LEAST, -1, LEAST);
    pair("TIMES", MOST, MOST, 1);
    pair("BY", LEAST, -1, LEAST);
    pair("BY", LEAST + 1, -1, MOST);
    pair("BY", LEAST, 1, LEAST);
    for (int n : new int[] {LEAST, MOST}) {
      Scene.gives("PUSH " + n + "; GIVE", 0, 0, n);
      Scene.gives("ARGUMENT; GIVE", n, 0, n);
      Scene.gives("ARGUMENT; SAVE 4; LOAD 4; GIVE", n, 0, n);
    }
  }

  private static void pair(String code, int x, int y, int due) {
    Scene.gives("PUSH " + x + "; PUSH " + y + "; " + code + "; GIVE", 0, 0, due);
  }

  private static void cutTowardZero() {
    Due.sentence("x / y (cut off toward 0)");
    int[][] rows = {{6, 3, 2}, {5, 3, 1}, {2, 3, 0}, {-2, 3, 0}, {-3, 3, -1}, {-5, 3, -1}, {-6, 3, -2}, {5, -3, -1}, {6, -3, -2},
        {-5, -3, 1}, {-6, -3, 2}, {0, 3, 0}, {0, -3, 0}, {MOST, LEAST, 0}, {LEAST, MOST, -1}, {LEAST, LEAST, 1}, {MOST, 2, 1073741823}};
    for (int[] row : rows) pair("BY", row[0], row[1], row[2]);
  }

  private static void comparing() {
    Due.sentence("give 1 or 0 (x is less than y; they are the same)");
    for (int n : new int[] {LEAST + 1, -1, 0, 1, MOST - 1}) {
      pair("BELOW", n - 1, n, 1);
      pair("BELOW", n, n, 0);
      pair("BELOW", n + 1, n, 0);
      pair("SAME", n - 1, n, 0);
      pair("SAME", n, n, 1);
      pair("SAME", n + 1, n, 0);
    }
    pair("BELOW", LEAST, MOST, 1);
    pair("BELOW", MOST, LEAST, 0);
    pair("SAME", LEAST, MOST, 0);
    pair("SAME", LEAST, LEAST, 1);
    pair("SAME", MOST, MOST, 1);
  }

  private static void skipTakes() {
    Due.sentence("SKIP a: takes x; with x 0 the next a STEPS are not done");
    for (int x : new int[] {1, -1, LEAST, MOST}) Scene.gives("PUSH 6; PUSH " + x + "; SKIP 1; GIVE; PUSH 7; GIVE", 0, 0, 6);
    Scene.gives("PUSH 6; PUSH 0; SKIP 1; GIVE; PUSH 7; GIVE", 0, 0, 7);
    Scene.gives("PUSH 6; PUSH 0; SKIP 2; GIVE; PUSH 7; PUSH 8; GIVE", 0, 0, 8);
    Scene s = Scene.ofSteps("PUSH 6; PUSH 0; SKIP 2; PUSH 7; GIVE; GIVE").gives(0, 0, 0, 0, 6);
    Due.is("what is not done uses nothing", s.x.told(1), 4);
  }

  /** Twenty steps: the SKIP is the third, the last gives 9, all between throw. */
  private static void skipBehindTheLast() {
    Due.sentence("SKIP a (1 to 20), to the last STEP, behind it and beyond it");
    String rest = "; THROW 11".repeat(16);
    Scene.gives("PUSH 9; PUSH 0; SKIP 16" + rest + "; GIVE", 0, 0, 9);
    for (int a = 17; a <= 20; a++) {
      Scene s = Scene.ofSteps("PUSH 9; PUSH 0; SKIP " + a + rest + "; GIVE").gives(0, 0, 0, 0, 0);
      Due.is("used", s.x.told(1), 3);
    }
    Scene.throwsOut("PUSH 9; PUSH 0; SKIP 15" + rest + "; GIVE", 11);
    Scene.gives("PUSH 0; SKIP 1", 0, 0, 0);
    Scene.gives("PUSH 0; SKIP 20", 0, 0, 0);
    Scene.gives("PUSH 5; SKIP 20", 0, 0, 0);
  }

  private static void backTakes() {
    Due.sentence("BACK a: takes x; with x not 0 it goes on a STEPS ahead of this one");
    for (int x : new int[] {1, -1, LEAST, MOST}) {
      Scene s = Scene.ofSteps("LOAD 0; SKIP 2; PUSH 5; GIVE; PUSH 1; SAVE 0; PUSH " + x + "; BACK 7; THROW 12").gives(0, 0, 0, 0, 5);
      Due.is("used", s.x.told(1), 10);
    }
    Scene.throwsOut("LOAD 0; SKIP 2; PUSH 5; GIVE; PUSH 1; SAVE 0; PUSH 0; BACK 7; THROW 12", 12);
    Scene near = Scene.ofSteps("ARGUMENT; PUSH 0; TURN; BACK 1; GIVE");
    near.gives(0, 0, 0, 0, 0);
    near.throwsOut(0, 0, 1, 0, 8);
    Due.is("from the TURN on, with one number", near.x.told(1), 5);
  }

  /** The BACK is the eighth step: seven ahead of it is the first; from the second on there is no number to add to. */
  private static void backToTheFirst() {
    Due.sentence("BACK a (1 to 20; ahead of the first: at that)");
    for (int a : new int[] {6, 7, 8, 20}) {
      Scene s = Scene.ofSteps("LOAD 0; PUSH 1; PLUS; SAVE 0; LOAD 0; PUSH 3; BELOW; BACK " + a + "; LOAD 0; GIVE");
      if (a < 7) s.throwsOut(0, 0, 0, 0, 8);
      else s.gives(0, 0, 0, 0, 3);
      Due.is("used by BACK " + a, s.x.told(1), a < 7 ? 10 : 26);
    }
  }

  private static void lastOnes() {
    Due.sentence("DOUBLE: the last one once more. DROP: takes one. TURN: the two last ones change places");
    Scene.gives("PUSH 4; DOUBLE; PLUS; GIVE", 0, 0, 8);
    Scene.throwsOut("DOUBLE", 8);
    Scene.gives("PUSH 4; DROP", 0, 0, 0);
    Scene.throwsOut("PUSH 4; DROP; DROP", 8);
    Scene.gives("PUSH 9; PUSH 4; PUSH 3; TURN; MINUS; GIVE", 0, 0, -1);
    Scene.gives("PUSH 9; PUSH 4; PUSH 3; TURN; DROP; DROP; GIVE", 0, 0, 9);
    Scene.throwsOut("PUSH 9; TURN", 8);
  }

  private static void anyEvent() {
    Due.sentence("TELL a: takes x: an EVENT of a, x");
    for (int a : new int[] {LEAST, -109, 0, MOST})
      for (int x : new int[] {LEAST, -109, 0, MOST}) {
        Scene s = Scene.ofSteps("ARGUMENT; TELL " + a).gives(0, 0, x, 0, 0);
        Due.is("events", s.x.told(5), 1);
        Due.is("a", s.x.event(0, 1), a);
        Due.is("x", s.x.event(0, 2), x);
      }
  }

  private static void sendToEach() {
    Due.sentence("SEND a (0 to 3): so many COINS go from the CONTRACT to USER a");
    for (int a = 0; a < 4; a++) {
      Scene s = Scene.ofSteps("PUSH 30; SEND " + a).gives(0, 0, 0, 100, 0);
      Due.is("the contract", s.x.coins(0, 0), 70);
      for (int user = 0; user < 4; user++)
        Due.is("user " + user, s.x.coins(1, user), 10000 - (user == 0 ? 102 : 0) + (user == a ? 30 : 0));
    }
    for (int a : new int[] {-1, 4}) Due.is("SEND " + a, Scene.of(1).x.step(0, 0, 23, a, 0), Scene.OUTSIDE);
  }

  private static void givingEnds() {
    Due.sentence("GIVE: takes x: the FRAME ends and gives x");
    for (int n : new int[] {LEAST, -1, 0, 1, MOST}) {
      Scene s = Scene.ofSteps("ARGUMENT; GIVE; THROW 10").gives(0, 0, n, 0, n);
      Due.is("used", s.x.told(1), 2);
    }
  }

  private static void throwing() {
    Due.sentence("THROW a (10 to 99)");
    for (int a = 10; a <= 99; a++) Scene.throwsOut("THROW " + a + "; PUSH 1; GIVE", a);
    for (int a : new int[] {9, 100, -10, LEAST, MOST}) Due.is("THROW " + a, Scene.of(1).x.step(0, 0, 25, a, 0), Scene.OUTSIDE);
  }

  public static void main(String[] args) {
    contractsAndUsers();
    firstCoins();
    stores();
    members();
    onlyOneFull();
    guardedAtFirst();
    codes();
    notLookedAt();
    callers();
    selfAndCoins();
    wrapping();
    cutTowardZero();
    comparing();
    skipTakes();
    skipBehindTheLast();
    backTakes();
    backToTheFirst();
    lastOnes();
    anyEvent();
    sendToEach();
    givingEnds();
    throwing();
    Due.end();
  }
}
