/** "Terms", part 2, the first paragraph: a frame's stack, its limit, and what it throws of itself. */
public final class PartTwoTest {
  private static final int LEAST = Integer.MIN_VALUE, MOST = Integer.MAX_VALUE;
  private static final String EIGHT = "PUSH 1; PUSH 2; PUSH 3; PUSH 4; PUSH 5; PUSH 6; PUSH 7; PUSH 8";

  private static void emptyAtFirst() {
    Due.sentence("a stack of 8 numbers at most, empty at first");
    Scene.throwsOut("DROP", 8);
    Scene.gives("PUSH 1; DROP", 0, 0, 0);
    Scene calls = Scene.ofSteps("PUSH 1; PUSH 2").member(0, 1, "DROP");
    calls.gives(0, 0, 0, 0, 0).throwsOut(0, 1, 0, 0, 8).throwsOut(0, 1, 0, 0, 8);
    Scene frames = Scene.of(2).member(1, 0, "PUSH 1; PUSH 2").member(1, 1, EIGHT + "; PUSH 9").member(1, 2, "DROP");
    frames.member(0, 0, "PUSH 9; PUSH 0; PUSH 0; CALL 1 0; PUSH 9; PUSH 0; PUSH 0; TRY 1 2; DROP; GIVE").gives(0, 0, 0, 0, 8);
    frames.member(0, 1, "PUSH 9; PUSH 0; PUSH 0; TRY 1 1; PUSH 9; PUSH 0; PUSH 0; TRY 1 2; DROP; GIVE").gives(0, 1, 0, 0, 8);
  }

  private static void eightAtMost() {
    Due.sentence("a stack of 8 numbers at most, of each FRAME by itself");
    Scene.gives(EIGHT + "; GIVE", 0, 0, 8);
    Scene.throwsOut(EIGHT + "; PUSH 9; GIVE", 8);
    String sum = EIGHT + "; PLUS; PLUS; PLUS; PLUS; PLUS; PLUS; PLUS; GIVE";
    Scene.gives(sum, 0, 0, 36);
    Scene s = Scene.of(2).member(1, 0, sum);
    s.member(0, 0, "PUSH 1; PUSH 2; PUSH 3; PUSH 4; PUSH 5; PUSH 90; PUSH 0; PUSH 0; CALL 1 0; PLUS; PLUS; PLUS; PLUS; PLUS; GIVE");
    s.gives(0, 0, 0, 0, 51);
  }

  private static void behindTheLast() {
    Due.sentence("It does STEPS from the first on; behind the last one it ends and gives 0");
    Scene.gives("PUSH 5", 0, 0, 0);
    Scene.gives("PUSH 5; PUSH 6", 0, 0, 0);
    Scene.gives("PUSH 5; GIVE", 0, 0, 5);
    Scene s = Scene.of(2).member(1, 0, "PUSH 5").member(0, 0, "PUSH 8; PUSH 9; PUSH 0; PUSH 0; CALL 1 0; PLUS; GIVE");
    s.gives(0, 0, 0, 0, 8);
    Due.is("given by the inner", s.x.frame(1, 5), 0);
  }

  private static void limitOfSteps() {
    Due.sentence("Ahead of each STEP its LIMIT is one less; when none is left: THROW 6");
    for (int n = 1; n <= 18; n++) {
      Scene s = Scene.ofSteps("PUSH 1; DROP; ".repeat(n / 2) + (n % 2 == 1 ? "PUSH 1; " : "") + "PUSH 4; SAVE 0");
      Due.is("as many as there are", s.x.call(1, 0, 0, 0, 0, n + 2), 1);
      Due.is("used", s.x.told(1), n + 2);
      Due.is("the last is done", s.x.store(0, 0), 4);
      Due.is("one more", s.x.call(1, 0, 0, 0, 0, n + 3), 1);
      Due.is("used", s.x.told(1), n + 2);
      Due.is("one less", s.x.call(1, 0, 0, 0, 0, n + 1), 0);
      Due.is("thrown", s.x.told(0), 6);
      Due.is("used", s.x.told(1), n + 1);
      Due.is("paid for all three", s.x.coins(1, 1), 10000 - (n + 2) - (n + 2) - (n + 1));
    }
  }

  /** Two steps, ARGUMENT rounds of six, then two. */
  private static final String ROUNDS =
      "ARGUMENT; SAVE 0; LOAD 0; PUSH 1; MINUS; DOUBLE; SAVE 0; BACK 5; PUSH 7; GIVE";

  private static void thousandSteps() {
    Due.sentence("LIMIT (1 to 1000), used to the last");
    Scene s = Scene.ofSteps(ROUNDS).member(0, 1, "PUSH 1; DROP; PUSH 1; BACK 3");
    Due.is("1000 of 1000", s.x.call(0, 0, 0, 166, 0, 1000), 1);
    Due.is("used", s.x.told(1), 1000);
    Due.is("given back", s.x.told(2), 1);
    Due.is("1000 of 999", s.x.call(0, 0, 0, 166, 0, 999), 0);
    Due.is("thrown", s.x.told(0), 6);
    Due.is("used", s.x.told(1), 999);
    Due.is("1006 of 1000", s.x.call(0, 0, 0, 167, 0, 1000), 0);
    Due.is("used", s.x.told(1), 1000);
    Due.is("without an end", s.x.call(0, 0, 1, 0, 0, 1000), 0);
    Due.is("thrown", s.x.told(0), 6);
    Due.is("used", s.x.told(1), 1000);
    Due.is("paid", s.x.coins(1, 0), 10000 - 999 - 999 - 1000 - 1000);
  }

  private static void limitIsFirst() {
    Due.sentence("Ahead of each STEP: THROW 6, whatever the STEP would do");
    String[] steps = {"DROP", "THROW 10", "PUSH 1; PUSH 0; BY", "PUSH -1; SEND 0", "PUSH 9; PUSH 0; PUSH 0; CALL 7 0", "PUSH 3; GIVE"};
    int[] due = {8, 10, 3, 7, 1, 3};
    for (int i = 0; i < steps.length; i++) {
      int n = steps[i].split(";").length;
      Scene s = Scene.ofSteps("PUSH 5; DROP; " + steps[i]);
      Due.is(steps[i], s.x.call(0, 0, 0, 0, 0, n + 2), i == 5 ? 1 : 0);
      Due.is(steps[i], s.x.told(0), due[i]);
      Due.is("used", s.x.told(1), n + 2);
      Due.is(steps[i], s.x.call(0, 0, 0, 0, 0, n + 1), 0);
      Due.is(steps[i], s.x.told(0), 6);
      Due.is("used", s.x.told(1), n + 1);
    }
  }

  /** What each step would throw with one number more. */
  private static void stackIsAheadOfAll() {
    Due.sentence("A STEP that takes what is not there: THROW 8 (ahead of all else that it does)");
    Scene.throwsOut("PUSH 0; BY", 8);
    Scene.throwsOut("PUSH 0; PUSH 0; BY", 3);
    Scene.throwsOut("SEND 0", 8);
    Scene.throwsOut("PUSH -1; SEND 0", 7);
    Scene.throwsOut("PUSH 0; PUSH 0; CALL 7 0", 8);
    Scene.throwsOut("PUSH 0; PUSH 0; PUSH 0; CALL 7 0", 1);
    Scene.throwsOut("PUSH 0; PUSH 0; TRY 7 0; PUSH 1; GIVE", 8);
    Scene.gives("PUSH 0; PUSH 0; PUSH 0; TRY 7 0; PUSH 1; GIVE", 0, 0, 1);
    Scene.throwsOut("PUSH 0; LOOK 7 0", 8);
    Scene.throwsOut("PUSH 0; PUSH 0; LOOK 7 0", 1);
    Scene guarded = Scene.ofSteps("PUSH 0; PUSH 0; CALL 0 0").guarded(0, 0).throwsOut(0, 0, 0, 0, 8);
    guarded.x.empty(0, 0);
    guarded.member(0, 0, "PUSH 0; PUSH 0; PUSH 0; CALL 0 0").throwsOut(0, 0, 0, 0, 4);
    for (String code : new String[] {"SAVE 0", "TELL 0", "SEND 0"}) {
      lookedAt(code).throwsOut(0, 0, 0, 0, 8);
      lookedAt("PUSH 0; " + code).throwsOut(0, 0, 0, 0, 2);
    }
    Scene told = Scene.ofSteps(sixtyThen("TELL 1")).throwsOut(0, 0, 0, 0, 8);
    told.x.empty(0, 0);
    told.member(0, 0, sixtyThen("PUSH 0; TELL 1")).throwsOut(0, 0, 0, 0, 9);
  }

  /** 0 0 looks at 1 0, which has these steps. */
  private static Scene lookedAt(String steps) {
    return Scene.of(2).member(0, 0, "PUSH 900; ARGUMENT; LOOK 1 0; GIVE").member(1, 0, steps);
  }

  /** STORE 0 counts from 60 to 0, with an EVENT each time. */
  private static String sixtyThen(String steps) {
    return "PUSH 60; SAVE 0; LOAD 0; TELL 4; LOAD 0; PUSH 1; MINUS; DOUBLE; SAVE 0; BACK 7; " + steps;
  }

  private static void leavesTooMuch() {
    Due.sentence("A STEP that would leave more than 8: THROW 8");
    String seven = "PUSH 1; PUSH 2; PUSH 3; PUSH 4; PUSH 5; PUSH 6; PUSH 7; ";
    for (String code : new String[] {"PUSH 9", "ARGUMENT", "VALUE", "CALLER", "COINS", "SELF", "LOAD 7", "DOUBLE"}) {
      Scene.gives(seven + code, 0, 0, 0);
      Scene.throwsOut(seven + "PUSH 8; " + code, 8);
    }
    for (String code : new String[] {"SAVE 1", "PLUS", "MINUS", "TIMES", "BY", "BELOW", "SAME", "SKIP 1", "DROP", "TURN", "TELL 1"})
      Scene.gives(EIGHT + "; " + code, 0, 0, 0);
    String five = "PUSH 1; PUSH 2; PUSH 3; PUSH 4; PUSH 5; ";
    for (String code : new String[] {"PUSH 0; PUSH 0; CALL 0 1", "PUSH 0; PUSH 0; TRY 0 1", "PUSH 0; PUSH 0; TRY 7 0"})
      Scene.ofSteps(five + "PUSH 9; " + code).member(0, 1, "PUSH 1").gives(0, 0, 0, 0, 0);
    Scene.ofSteps(five + "PUSH 6; PUSH 9; PUSH 0; LOOK 0 1").member(0, 1, "PUSH 1").gives(0, 0, 0, 0, 0);
  }

  private static void byZero() {
    Due.sentence("BY with y 0: THROW 3");
    for (int x : new int[] {LEAST, -1, 0, 1, MOST}) {
      Scene.throwsOut("PUSH " + x + "; PUSH 0; BY", 3);
      Scene.gives("PUSH " + x + "; PUSH 1; BY; GIVE", 0, 0, x);
      Scene.gives("PUSH " + x + "; PUSH -1; BY; GIVE", 0, 0, -x);
    }
  }

  private static void onlyReading() {
    Due.sentence("A FRAME that ONLY READS: SAVE, TELL, SEND: THROW 2");
    for (String code : new String[] {"SAVE 0", "SAVE 7", "TELL 5", "SEND 0", "SEND 3"}) {
      Scene s = lookedAt("PUSH 0; " + code).throwsOut(0, 0, 0, 0, 2);
      Due.is("thrown by the second", s.x.frame(1, 4), 2);
      Due.is("used by the second", s.x.frame(1, 3), 2);
      s.gives(1, 0, 0, 0, 0);
    }
    lookedAt("PUSH -1; SEND 0").throwsOut(0, 0, 0, 0, 2).throwsOut(1, 0, 0, 0, 7);
    String reads = "LOAD 0; ARGUMENT; PLUS; VALUE; PLUS; CALLER; PLUS; COINS; PLUS; SELF; PLUS; PUSH 0; SKIP 1; THROW 10; GIVE";
    lookedAt(reads).gives(0, 0, 40, 0, 41);
    lookedAt("THROW 10").throwsOut(0, 0, 0, 0, 10);
  }

  private static void onlyReadingAheadOfEvents() {
    Due.sentence("A FRAME that ONLY READS: TELL: THROW 2, also when there are 60 EVENTS");
    Scene s = Scene.of(2).member(0, 0, sixtyThen("PUSH 9; PUSH 0; LOOK 1 0")).member(1, 0, "PUSH 1; TELL 1");
    s.throwsOut(0, 0, 0, 0, 2);
    s.x.empty(0, 0);
    s.member(0, 0, sixtyThen("PUSH 9; PUSH 0; PUSH 0; CALL 1 0")).throwsOut(0, 0, 0, 0, 9);
  }

  private static void sending() {
    Due.sentence("SEND of less than 0 or more than there is: THROW 7");
    for (int has : new int[] {0, 1, 50}) {
      for (int x : new int[] {LEAST, -1, has + 1, MOST}) {
        Scene s = Scene.ofSteps("ARGUMENT; SEND 2").throwsOut(0, 0, x, has, 7);
        Due.is("user 2", s.x.coins(1, 2), 10000);
      }
      for (int x : new int[] {0, has}) {
        Scene s = Scene.ofSteps("ARGUMENT; SEND 2").gives(0, 0, x, has, 0);
        Due.is("user 2", s.x.coins(1, 2), 10000 + x);
        Due.is("the contract", s.x.coins(0, 0), has - x);
      }
    }
    Scene.ofSteps("PUSH 6; SEND 2; PUSH 4; SEND 3").gives(0, 0, 0, 10, 0).throwsOut(0, 0, 0, 9, 7);
  }

  private static void sixtyEvents() {
    Due.sentence("TELL, when there are 60 EVENTS: THROW 9");
    Scene s = Scene.ofSteps(sixtyThen("PUSH 1; GIVE")).gives(0, 0, 0, 0, 1);
    Due.is("events", s.x.told(5), 60);
    Due.is("the last", s.x.event(59, 2), 1);
    Due.is("behind the last", s.x.event(60, 2), Scene.NONE);
    s.member(0, 1, sixtyThen("PUSH 1; TELL 1")).throwsOut(0, 1, 0, 0, 9);
    Due.is("events", s.x.told(5), 0);
    s.gives(0, 0, 0, 0, 1);
    Due.is("each call has room for 60", s.x.told(5), 60);
    Scene two = Scene.of(2).member(1, 0, "PUSH 3; TELL 3");
    two.member(0, 0, sixtyThen("PUSH 9; PUSH 0; PUSH 0; TRY 1 0; DROP; GIVE")).gives(0, 0, 0, 0, 9);
    Due.is("events, the caller's alone", two.x.told(5), 60);
    two.member(0, 1, "PUSH 59; " + sixtyThen("PUSH 9; PUSH 0; PUSH 0; TRY 1 0; GIVE").substring("PUSH 60; ".length()));
    two.gives(0, 1, 0, 0, 1);
    Due.is("events, with the other's", two.x.told(5), 60);
    Due.is("the last is the other's", two.x.event(59, 0), 1);
  }

  public static void main(String[] args) {
    emptyAtFirst();
    eightAtMost();
    behindTheLast();
    limitOfSteps();
    thousandSteps();
    limitIsFirst();
    stackIsAheadOfAll();
    leavesTooMuch();
    byZero();
    onlyReading();
    onlyReadingAheadOfEvents();
    sending();
    sixtyEvents();
    Due.end();
  }
}
