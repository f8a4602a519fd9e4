/** Promises 1 to 13, one after the other: what each paragraph names at its edges, on both sides. */
public final class PromiseEdgesTest {
  private static final int LEAST = Integer.MIN_VALUE, MOST = Integer.MAX_VALUE;

  /** Promise 1. */
  private static void newObject() {
    Due.sentence("ContractFrames(): No CONTRACTS");
    ContractFrames x = new ContractFrames();
    Due.is("contracts", x.count(0), 0);
    Due.is("a store of contract 0", x.store(0, 0), Scene.UNKNOWN);
    Due.is("contract", x.contract(), 0);
    Due.is("a store of contract 0", x.store(0, 0), 0);
    Due.is("a store of contract 1", x.store(1, 0), Scene.UNKNOWN);
    Due.same("a new one beside it", Look.of(new ContractFrames()), Look.of(new ContractFrames()));
  }

  /** Promise 2. */
  private static void contract() {
    Due.sentence("A CONTRACT: its number. ROOM");
    ContractFrames x = new ContractFrames();
    for (int c = 0; c < 8; c++) Due.is("contract " + c, x.contract(), c);
    for (int again = 0; again < 3; again++) Due.is("one more", x.contract(), Scene.ROOM);
    Due.is("clear", x.clear(), 8);
    for (int c = 0; c < 8; c++) Due.is("contract " + c + ", after clear", x.contract(), c);
    Due.is("one more", x.contract(), Scene.ROOM);
  }

  /** Promise 3. */
  private static void step() {
    Due.sentence("A STEP behind those of a MEMBER: how many it has");
    Scene s = Scene.ofSteps("PUSH 5; GIVE").gives(0, 0, 0, 0, 5);
    s.x.empty(0, 0);
    s.member(0, 0, "PUSH 6").gives(0, 0, 0, 0, 0);
    Due.is("one behind it", s.x.step(0, 0, 24, 0, 0), 2);
    s.gives(0, 0, 0, 0, 6);
    for (int n = 3; n <= 20; n++) Due.is("step " + n, s.x.step(0, 0, 25, 10, 0), n);
    Due.is("step 21", s.x.step(0, 0, 25, 10, 0), Scene.ROOM);
    Due.is("one less by empty", s.x.empty(0, 0), 20);
    Due.is("the first again", s.x.step(0, 0, 0, 7, 0), 1);
    s.gives(0, 0, 0, 0, 0);
    Due.is("what was there is not done", s.x.told(1), 1);
  }

  /** Promise 4. */
  private static void empty() {
    Due.sentence("A MEMBER has no STEPS: how many it had");
    for (int m = 0; m < 4; m++) {
      Scene s = Scene.of(8);
      for (int other = 0; other < 4; other++) s.member(7, other, "PUSH 5; GIVE");
      Due.is("it had two", s.x.empty(7, m), 2);
      Due.is("it had none", s.x.empty(7, m), 0);
      Due.is("of all", s.x.count(3), 6);
      for (int other = 0; other < 4; other++)
        Due.is("call of " + other, s.x.call(0, 7, other, 0, 0, 9), other == m ? Scene.STATE : 1);
    }
    Scene s = Scene.of(1);
    for (int n = 0; n < 20; n++) s.x.step(0, 3, 0, 0, 0);
    Due.is("it had twenty", s.x.empty(0, 3), 20);
    for (int m : new int[] {-1, 4}) Due.is("member " + m, s.x.empty(0, m), Scene.OUTSIDE);
    for (int c : new int[] {-1, 1}) Due.is("contract " + c, s.x.empty(c, 0), Scene.UNKNOWN);
  }

  /** Promise 5. */
  private static void guard() {
    Due.sentence("A MEMBER is GUARDED, or not: 1 if it was, else 0");
    for (int m = 0; m < 4; m++) {
      Scene s = Scene.of(8).guarded(7, m);
      for (int c = 0; c < 8; c++)
        for (int other = 0; other < 4; other++) Due.is("guard of " + c + " " + other, s.x.guard(c, other, true), c == 7 && other == m ? 1 : 0);
      Due.is("off", s.x.guard(7, m, false), 1);
      Due.is("off again", s.x.guard(7, m, false), 0);
    }
    Scene s = Scene.of(1);
    for (int m : new int[] {-1, 4}) Due.is("member " + m, s.x.guard(0, m, true), Scene.OUTSIDE);
    for (int c : new int[] {-1, 1}) Due.is("contract " + c, s.x.guard(c, 0, true), Scene.UNKNOWN);
  }

  /** Promise 6. */
  private static void call() {
    Due.sentence("OUTSIDE: the MEMBER, VALUE (0 to 10000), LIMIT (1 to 1000)");
    Scene s = Scene.of(1).member(0, 0, "PUSH 5").member(0, 3, "PUSH 5").member(0, 1, "VALUE; SEND 1");
    for (int m : new int[] {-1, 4}) Due.is("member " + m, s.x.call(0, 0, m, 0, 0, 9), Scene.OUTSIDE);
    for (int m : new int[] {0, 3}) Due.is("member " + m, s.x.call(0, 0, m, 0, 0, 9), 1);
    for (int limit : new int[] {0, 1001}) Due.is("limit " + limit, s.x.call(0, 0, 0, 0, 0, limit), Scene.OUTSIDE);
    for (int limit : new int[] {1, 1000}) Due.is("limit " + limit, s.x.call(0, 0, 0, 0, 0, limit), 1);
    for (int argument : new int[] {LEAST, MOST}) Due.is("any argument", s.x.call(0, 0, 0, argument, 0, 1), 1);
    Due.is("user 1 gets more", s.x.call(0, 0, 1, 0, 1001, 2), 1);
    for (int value : new int[] {-1, 10001}) Due.is("value " + value, s.x.call(1, 0, 0, 0, value, 1000), Scene.OUTSIDE);
    Due.is("value 10000", s.x.call(1, 0, 0, 0, 10000, 1000), 1);
    Due.is("user 1", s.x.coins(1, 1), 1000);
    Due.is("value 0", s.x.call(1, 0, 0, 0, 0, 1000), 1);
    Due.sentence("STATE: the USER has less than VALUE and LIMIT together, or the MEMBER has no STEPS");
    Due.is("999 of 1000", s.x.call(1, 0, 0, 0, 0, 1000), Scene.STATE);
    Due.is("999 of 1 and 999", s.x.call(1, 0, 0, 0, 1, 999), Scene.STATE);
    Due.is("999 of 0 and 999", s.x.call(1, 0, 0, 0, 0, 999), 1);
    Due.is("998 of 900 and 98", s.x.call(1, 0, 0, 0, 900, 98), 1);
    Due.is("no steps", s.x.call(2, 0, 2, 0, 0, 9), Scene.STATE);
    s.member(0, 2, "PUSH 1");
    Due.is("one step", s.x.call(2, 0, 2, 0, 0, 9), 1);
  }

  /** 0 0 calls 1 0 ARGUMENT times. */
  private static Scene frames(int count) {
    Scene s = Scene.of(2).member(1, 0, "ARGUMENT; GIVE");
    s.member(0, 0, "ARGUMENT; SAVE 0; PUSH 9; PUSH 0; LOAD 0; CALL 1 0; PUSH 1; MINUS; DOUBLE; SAVE 0; BACK 8; PUSH 1; GIVE");
    return s.gives(0, 0, count - 1, 0, 1);
  }

  /** Promise 7. */
  private static void told() {
    Due.sentence("told: what (0 to 5). OUTSIDE; STATE: there was none");
    Scene s = Scene.ofSteps("PUSH 1; TELL 2; PUSH -103; GIVE").member(0, 1, "PUSH 1; TELL 2; THROW 10");
    for (int what : new int[] {0, 5}) Due.is("ahead of a call", s.x.told(what), Scene.STATE);
    for (int what : new int[] {-1, 6}) Due.is("ahead of a call", s.x.told(what), Scene.OUTSIDE);
    Due.is("a call that is refused", s.x.call(0, 0, 0, 0, 0, 0), Scene.OUTSIDE);
    Due.is("after that", s.x.told(0), Scene.STATE);
    s.gives(0, 0, 0, 0, -103);
    for (int what : new int[] {-1, 6}) Due.is("after a call", s.x.told(what), Scene.OUTSIDE);
    int[] gave = {-103, 4, 0, 1, 1, 1};
    for (int what = 0; what < 6; what++) Due.is("told(" + what + ")", s.x.told(what), gave[what]);
    s.throwsOut(0, 1, 0, 0, 10);
    int[] threw = {10, 3, 0, 1, 1, 0};
    for (int what = 0; what < 6; what++) Due.is("told(" + what + ")", s.x.told(what), threw[what]);
    Due.is("a call that is refused", s.x.call(0, 0, 2, 0, 0, 9), Scene.STATE);
    for (int what = 0; what < 6; what++) Due.is("told(" + what + ")", s.x.told(what), threw[what]);
    Due.sentence("FRAMES that were entered (3): all, not the first 40");
    for (int count : new int[] {2, 39, 40, 41, 90}) Due.is("entered", frames(count).x.told(3), count);
  }

  private static void toldDeepest() {
    Due.sentence("the most one within the other (4)");
    Scene s = Scene.ofSteps("ARGUMENT; SKIP 7; PUSH 900; PUSH 0; ARGUMENT; PUSH 1; MINUS; CALL 0 0; GIVE; PUSH 4; GIVE");
    s.member(0, 1, "PUSH 900; PUSH 0; PUSH 3; CALL 0 0; PUSH 900; PUSH 0; PUSH 1; CALL 0 0; GIVE");
    for (int more = 0; more < 8; more++) {
      s.gives(0, 0, more, 0, 4);
      Due.is("deepest", s.x.told(4), more + 1);
      Due.is("entered", s.x.told(3), more + 1);
    }
    s.gives(0, 1, 0, 0, 4);
    Due.is("deepest of two ways", s.x.told(4), 5);
    Due.is("entered", s.x.told(3), 7);
    s.gives(0, 0, 0, 0, 4);
    Due.is("deepest of the next call", s.x.told(4), 1);
  }

  /** Promise 8. */
  private static void frame() {
    Due.sentence("frame: the k-th FRAME (from 0 on, the first 40). OUTSIDE: what; NONE: there is none such");
    for (int count : new int[] {2, 39, 40, 41, 90}) {
      Scene s = frames(count);
      int last = Math.min(count, 40) - 1;
      Due.is("the first", s.x.frame(0, 5), 1);
      Due.is("the second", s.x.frame(1, 5), count - 1);
      Due.is("the last that is told", s.x.frame(last, 5), count - last);
      for (int what = 0; what < 7; what++) Due.is("behind it", s.x.frame(last + 1, what), Scene.NONE);
      Due.is("ahead of the first", s.x.frame(-1, 0), Scene.NONE);
      for (int what : new int[] {-1, 7}) Due.is("what " + what, s.x.frame(last, what), Scene.OUTSIDE);
      for (int what : new int[] {-1, 7}) Due.is("what " + what, s.x.frame(last + 1, what), Scene.OUTSIDE);
    }
    ContractFrames none = new ContractFrames();
    for (int what : new int[] {0, 6}) Due.is("no call", none.frame(0, what), Scene.NONE);
    for (int what : new int[] {-1, 7}) Due.is("no call", none.frame(0, what), Scene.OUTSIDE);
  }

  private static void frameThatThrew() {
    Due.sentence("0 if it gave, else what it threw (4), what it gave (5; 0 when it threw)");
    Scene s = Scene.of(2).member(0, 0, "PUSH 90; PUSH 0; ARGUMENT; TRY 1 0; DROP; GIVE");
    s.member(1, 0, "ARGUMENT; PUSH 10; BELOW; SKIP 2; ARGUMENT; GIVE; THROW 77");
    s.gives(0, 0, 9, 0, 9);
    Due.is("it gave", s.x.frame(1, 4), 0);
    Due.is("what it gave", s.x.frame(1, 5), 9);
    s.gives(0, 0, 10, 0, 77);
    Due.is("what it threw", s.x.frame(1, 4), 77);
    Due.is("it gave nothing", s.x.frame(1, 5), 0);
    Due.is("its caller gave", s.x.frame(0, 4), 0);
    Due.is("what its caller gave", s.x.frame(0, 5), 77);
  }

  /** Promise 9. */
  private static void event() {
    Due.sentence("event: EVENT k that stays of that call. OUTSIDE: what; NONE: there is none such");
    Scene s = Scene.ofSteps("LOAD 0; TELL 4; LOAD 0; PUSH 1; PLUS; DOUBLE; SAVE 0; ARGUMENT; BELOW; BACK 9; PUSH 0; SAVE 0");
    Due.is("no call", s.x.event(0, 0), Scene.NONE);
    for (int what : new int[] {-1, 4}) Due.is("no call", s.x.event(0, what), Scene.OUTSIDE);
    for (int count : new int[] {1, 2, 59, 60}) {
      s.gives(0, 0, count, 0, 0);
      int[] due = {0, 4, count - 1, 1};
      for (int what = 0; what < 4; what++) Due.is("the last of " + count, s.x.event(count - 1, what), due[what]);
      for (int what = 0; what < 4; what++) Due.is("behind the last of " + count, s.x.event(count, what), Scene.NONE);
      for (int k : new int[] {-1, LEAST, MOST}) Due.is("event " + k, s.x.event(k, 0), Scene.NONE);
      for (int what : new int[] {-1, 4}) Due.is("what " + what, s.x.event(0, what), Scene.OUTSIDE);
    }
    s.throwsOut(0, 0, 61, 0, 9);
    Due.is("none stays", s.x.event(0, 0), Scene.NONE);
    Due.sentence("how deep (3)");
    Scene deep = Scene.ofSteps("ARGUMENT; TELL 1; ARGUMENT; SKIP 6; PUSH 900; PUSH 0; ARGUMENT; PUSH 1; MINUS; CALL 0 0");
    deep.gives(0, 0, 7, 0, 0);
    for (int k = 0; k < 8; k++) Due.is("event " + k, deep.x.event(k, 3), k + 1);
    Due.is("event 8", deep.x.event(8, 3), Scene.NONE);
  }

  /** Promise 10. */
  private static void store() {
    Due.sentence("STORE k of a CONTRACT. UNKNOWN; NONE: there is none such. (It may be any number.)");
    for (int n : new int[] {LEAST, -109, -101, -1, 0, 1, MOST}) {
      Scene s = Scene.of(8).member(7, 0, "ARGUMENT; SAVE 0; ARGUMENT; SAVE 7").gives(7, 0, n, 0, 0);
      for (int k : new int[] {0, 7}) Due.is("store " + k, s.x.store(7, k), n);
      for (int k : new int[] {1, 6}) Due.is("store " + k, s.x.store(7, k), 0);
      for (int k : new int[] {-1, 8}) Due.is("store " + k, s.x.store(7, k), Scene.NONE);
      for (int c : new int[] {-1, 8}) Due.is("contract " + c, s.x.store(c, 0), Scene.UNKNOWN);
      Due.is("another contract", s.x.store(6, 7), 0);
    }
  }

  /** Promise 11. */
  private static void coins() {
    Due.sentence("COINS of a CONTRACT (kind 0), of a USER (1), of THE POT (2; of any number). UNKNOWN; OUTSIDE: the kind");
    Scene s = Scene.of(2).member(0, 0, "PUSH 1").member(1, 0, "PUSH 1").gives(0, 0, 0, 6, 0).gives(1, 0, 0, 7, 0);
    int[] contracts = {Scene.UNKNOWN, 6, 7, Scene.UNKNOWN};
    for (int who = -1; who < 3; who++) Due.is("contract " + who, s.x.coins(0, who), contracts[who + 1]);
    int[] users = {Scene.UNKNOWN, 9985, 10000, 10000, 10000, Scene.UNKNOWN};
    for (int who = -1; who < 5; who++) Due.is("user " + who, s.x.coins(1, who), users[who + 1]);
    for (int who : new int[] {LEAST, -1, 0, 4, 8, MOST}) Due.is("the pot of " + who, s.x.coins(2, who), 2);
    for (int kind : new int[] {-1, 3})
      for (int who : new int[] {-1, 0, 99}) Due.is("kind " + kind, s.x.coins(kind, who), Scene.OUTSIDE);
    Due.is("a contract that comes later", s.x.contract(), 2);
    Due.is("its coins", s.x.coins(0, 2), 0);
  }

  /** Promise 12. */
  private static void count() {
    Due.sentence("CONTRACTS (what = 0), calls that gave (1), that THREW (2), STEPS of all MEMBERS (3). OUTSIDE");
    Scene s = Scene.ofSteps("ARGUMENT; SKIP 1; THROW 10");
    for (int what : new int[] {-1, 4}) Due.is("count(" + what + ")", s.x.count(what), Scene.OUTSIDE);
    int[] arguments = {0, 1, 1, 0, 0, 1};
    int gave = 0;
    for (int i = 0; i < arguments.length; i++) {
      gave += s.x.call(0, 0, 0, arguments[i], 0, 9);
      Due.is("gave", s.x.count(1), gave);
      Due.is("threw", s.x.count(2), i + 1 - gave);
    }
    Due.is("refused", s.x.call(0, 0, 1, 0, 0, 9), Scene.STATE);
    Due.is("gave", s.x.count(1), 3);
    Due.is("threw", s.x.count(2), 3);
    Scene full = Scene.of(8);
    for (int c = 0; c < 8; c++) for (int m = 0; m < 4; m++) for (int n = 0; n < 12; n++) full.x.step(c, m, 0, 0, 0);
    Due.is("steps of all", full.x.count(3), 384);
    Due.is("contracts", full.x.count(0), 8);
  }

  /** The run that is made on an object that was cleared, and on a new one. */
  private static String run(ContractFrames x) {
    StringBuilder answers = new StringBuilder(Look.of(x));
    answers.append(x.contract()).append(x.contract()).append(Look.of(x));
    int[][] steps = {{0, 0}, {7, 3}, {6, 3}, {22, 2}, {0, 90}, {0, 0}, {0, 0}, {19, 1}, {24, 0}};
    for (int[] step : steps) answers.append(x.step(0, 0, step[0], step[1], 0)).append(' ');
    answers.append(x.step(1, 0, 3, 0, 0)).append(x.call(1, 0, 0, 0, 50, 99)).append(Look.of(x)).append(x.clear());
    return answers.toString();
  }

  /** Promise 13. */
  private static void clear() {
    Due.sentence("All is as at the beginning: how many CONTRACTS there were");
    String due = run(new ContractFrames());
    for (int contracts = 0; contracts <= 8; contracts++) {
      Scene s = Scene.of(contracts);
      for (int c = 0; c < contracts; c++) {
        s.member(c, c % 4, "PUSH 9; SAVE 3; PUSH 9; TELL 4; PUSH 4; SEND 1; PUSH 5; GIVE").guarded(c, c % 4).guarded(c, 0);
        s.gives(c, c % 4, 0, 30, 5);
      }
      Due.is("clear", s.x.clear(), contracts);
      Due.same("after clear", run(s.x), due);
      Due.is("clear of none", s.x.clear(), 0);
    }
    Scene thrown = Scene.ofSteps("PUSH 9; SAVE 3; THROW 10").throwsOut(0, 0, 0, 5, 10);
    Due.is("clear", thrown.x.clear(), 1);
    Due.same("after clear of a call that threw", run(thrown.x), due);
  }

  public static void main(String[] args) {
    newObject();
    contract();
    step();
    empty();
    guard();
    call();
    told();
    toldDeepest();
    frame();
    frameThatThrew();
    event();
    store();
    coins();
    count();
    clear();
    Due.end();
  }
}
