/** "Terms", part 2: the five reasons why a frame may not be entered, their order, and what goes along if it may. */
public final class EnteringTest {
  private static final int LEAST = Integer.MIN_VALUE, MOST = Integer.MAX_VALUE;

  private static void noSuchContract() {
    Due.sentence("1: there is no such CONTRACT, or the MEMBER has no STEPS");
    for (int contracts = 1; contracts <= 7; contracts++) {
      Scene s = Scene.of(contracts).member(0, 0, "PUSH 9; PUSH 0; PUSH 0; CALL " + contracts + " 3; GIVE");
      s.throwsOut(0, 0, 0, 0, 1);
      Due.is("the next contract", s.x.contract(), contracts);
      s.throwsOut(0, 0, 0, 0, 1).member(contracts, 2, "PUSH 6; GIVE").throwsOut(0, 0, 0, 0, 1);
      s.member(contracts, 3, "PUSH 5; GIVE").gives(0, 0, 0, 0, 5);
      Due.is("empty", s.x.empty(contracts, 3), 2);
      s.throwsOut(0, 0, 0, 0, 1).member(contracts, 3, "PUSH 4").gives(0, 0, 0, 0, 0);
    }
    Scene gone = Scene.of(2).member(1, 3, "PUSH 5; GIVE");
    gone.x.clear();
    gone.x.contract();
    gone.member(0, 0, "PUSH 9; PUSH 0; PUSH 0; CALL 1 3; GIVE").throwsOut(0, 0, 0, 0, 1);
    gone.x.contract();
    gone.throwsOut(0, 0, 0, 0, 1);
  }

  /** ARGUMENT frames more are entered; the last one does what stands last. */
  private static String descend(String last) {
    return "ARGUMENT; SKIP 7; PUSH 900; PUSH 0; ARGUMENT; PUSH 1; MINUS; CALL 0 0; GIVE; " + last;
  }

  private static void eightFrames() {
    Due.sentence("5: there are 8 FRAMES already, one within the other");
    String[] calls = {"PUSH 900; PUSH 0; PUSH 0; CALL 0 1; GIVE", "PUSH 900; PUSH 0; LOOK 0 1; GIVE"};
    for (String call : calls) {
      Scene s = Scene.ofSteps(descend(call)).member(0, 1, "PUSH 33; GIVE");
      s.gives(0, 0, 6, 0, 33);
      Due.is("deepest", s.x.told(4), 8);
      Due.is("entered", s.x.told(3), 8);
      s.throwsOut(0, 0, 7, 0, 5);
      Due.is("deepest", s.x.told(4), 8);
      Due.is("entered", s.x.told(3), 8);
      Due.is("thrown by the eighth", s.x.frame(7, 4), 5);
    }
    Scene s = Scene.ofSteps(descend("PUSH 900; PUSH 0; PUSH 0; TRY 0 1; PUSH 1000; TIMES; PLUS; GIVE")).member(0, 1, "PUSH 33; GIVE");
    s.gives(0, 0, 6, 0, 1033).gives(0, 0, 7, 0, 5);
  }

  private static void notInAll() {
    Due.sentence("8 FRAMES, one within the other: those that have ended do not count");
    Scene s = Scene.of(1).member(0, 1, "PUSH 900; PUSH 0; PUSH 6; CALL 0 0; PUSH 900; PUSH 0; PUSH 6; CALL 0 0; PLUS; GIVE");
    s.member(0, 0, descend("PUSH 21; GIVE")).gives(0, 1, 0, 0, 42);
    Due.is("entered", s.x.told(3), 15);
    Due.is("deepest", s.x.told(4), 8);
  }

  private static void guarded() {
    Due.sentence("4: the MEMBER is GUARDED, and a FRAME of a GUARDED MEMBER of that CONTRACT has not ended");
    for (int mask = 0; mask < 8; mask++) {
      Scene s = Scene.of(2).member(0, 0, "PUSH 90; PUSH 0; PUSH 0; CALL 1 0; GIVE");
      s.member(1, 0, "PUSH 80; PUSH 0; PUSH 0; CALL 0 1; GIVE").member(0, 1, "PUSH 6; GIVE");
      boolean outer = (mask & 1) != 0, between = (mask & 2) != 0, inner = (mask & 4) != 0;
      if (outer) s.guarded(0, 0);
      if (between) s.guarded(1, 0);
      if (inner) s.guarded(0, 1);
      if (outer && inner) s.throwsOut(0, 0, 0, 0, 4);
      else s.gives(0, 0, 0, 0, 6);
      s.gives(1, 0, 0, 0, 6);
    }
    Scene itself = Scene.ofSteps(descend("PUSH 6; GIVE"));
    itself.gives(0, 0, 1, 0, 6).guarded(0, 0).gives(0, 0, 0, 0, 6).throwsOut(0, 0, 1, 0, 4);
    itself.gives(0, 0, 0, 0, 6);
  }

  /** 0 0 is guarded; 0 1, called by it, is not; 0 2, called by that, is: the frame of 0 0 has not ended. */
  private static void guardedFurtherOut() {
    Due.sentence("a FRAME of a GUARDED MEMBER has not ended, however far out it is");
    Scene s = Scene.of(1).member(0, 0, "PUSH 90; PUSH 0; PUSH 0; CALL 0 1; GIVE");
    s.member(0, 1, "PUSH 80; PUSH 0; PUSH 0; CALL 0 2; GIVE").member(0, 2, "PUSH 6; GIVE");
    s.guarded(0, 2).gives(0, 0, 0, 0, 6).guarded(0, 0).throwsOut(0, 0, 0, 0, 4).gives(0, 1, 0, 0, 6);
  }

  private static void ended() {
    Due.sentence("a FRAME that has ended, by giving or by throwing, keeps nobody out");
    String twice = "PUSH 50; PUSH 0; ARGUMENT; TRY 1 0; DROP; DROP; PUSH 50; PUSH 0; PUSH 1; CALL 1 1; GIVE";
    Scene s = Scene.of(2).member(0, 0, twice).member(1, 0, "ARGUMENT; SKIP 1; THROW 30").member(1, 1, "PUSH 6; GIVE");
    s.guarded(1, 0).guarded(1, 1).gives(0, 0, 0, 0, 6).gives(0, 0, 1, 0, 6);
  }

  private static Scene lookAndPay() {
    return Scene.of(2).member(0, 0, "PUSH 90; ARGUMENT; LOOK 0 1; GIVE").member(0, 1, "PUSH 80; ARGUMENT; PUSH 0; CALL 1 0; GIVE")
        .member(1, 0, "VALUE; GIVE");
  }

  private static void readersPayNothing() {
    Due.sentence("2: VALUE is not 0, and the caller ONLY READS");
    for (int value : new int[] {LEAST, -1, 1, 50, 51, MOST}) lookAndPay().throwsOut(0, 0, value, 50, 2);
    lookAndPay().gives(0, 0, 0, 50, 0);
    for (int value : new int[] {1, 50}) lookAndPay().gives(0, 1, value, 50, value);
  }

  private static void whatTheCallerHas() {
    Due.sentence("7: VALUE is less than 0, or more than the caller has");
    for (int has : new int[] {0, 1, 50}) {
      for (int value : new int[] {LEAST, -1, has + 1, MOST}) {
        Scene s = lookAndPay().throwsOut(0, 1, value, has, 7);
        Due.is("entered", s.x.told(3), 1);
      }
      for (int value : new int[] {0, has}) {
        Scene s = lookAndPay().gives(0, 1, value, has, value);
        Due.is("the caller", s.x.coins(0, 0), has - value);
        Due.is("the other", s.x.coins(0, 1), value);
      }
    }
  }

  /** A guarded or open 1 0 calls 0 0 or looks at it; this descends, then calls 1 1 with a value out of 10 coins. */
  private static void orderOfReasons() {
    Due.sentence("else, the first of these: 1, 5, 4, 2, 7");
    for (int mask = 0; mask < 16; mask++)
      for (int value : new int[] {0, 1, 10, 11, -1})
        for (int target : new int[] {1, 7}) oneOrder((mask & 1) != 0, (mask & 2) != 0, (mask & 4) != 0, (mask & 8) != 0, value, target);
  }

  private static void oneOrder(boolean noSteps, boolean deep, boolean guarded, boolean reads, int value, int target) {
    Scene s = Scene.of(2).member(0, 1, "PUSH 1").gives(0, 1, 0, 10, 0);
    s.member(0, 0, descend("PUSH 900; PUSH " + value + "; PUSH 0; TRY " + target + " 1; PUSH 1000; TIMES; PLUS; GIVE"));
    s.member(1, 0, reads ? "PUSH 900; ARGUMENT; LOOK 0 0; GIVE" : "PUSH 900; PUSH 0; ARGUMENT; CALL 0 0; GIVE");
    if (!noSteps) s.member(1, 1, "PUSH 5; GIVE");
    if (guarded) s.guarded(1, 0).guarded(1, 1);
    int due = noSteps || target == 7 ? 1 : deep ? 5 : guarded ? 4 : value != 0 && reads ? 2 : value < 0 || value > 10 ? 7 : 1005;
    s.gives(1, 0, deep ? 6 : 5, 0, due);
    Due.is("entered", s.x.told(3), (deep ? 8 : 7) + (due == 1005 ? 1 : 0));
    Due.is("coins of the caller", s.x.coins(0, 0), due == 1005 ? 10 - value : 10);
  }

  private static void takenAnyway() {
    Due.sentence("when it can't be entered, what was taken is gone, and the STEP is all that was used");
    Scene s = Scene.ofSteps("PUSH 3; PUSH 90; PUSH 0; PUSH 0; TRY 7 0; PLUS; PLUS; GIVE").gives(0, 0, 0, 0, 4);
    Due.is("used", s.x.told(1), 8);
    Due.is("of the frame", s.x.frame(0, 3), 8);
    Due.is("no second frame", s.x.frame(1, 0), Scene.NONE);
    Scene.throwsOut("PUSH 90; PUSH 0; PUSH 0; TRY 7 0; PLUS; PLUS", 8);
  }

  private static void valueGoes() {
    Due.sentence("The VALUE goes from the caller's CONTRACT to the other one");
    Scene s = Scene.of(2).member(0, 0, "PUSH 90; ARGUMENT; PUSH 0; CALL 1 0; COINS; PUSH 1000; TIMES; PLUS; GIVE");
    s.member(1, 0, "COINS; GIVE").gives(0, 0, 7, 20, 13007).gives(0, 0, 13, 0, 20).gives(0, 0, 0, 0, 20);
    Scene itself = Scene.of(1).member(0, 0, "PUSH 90; ARGUMENT; PUSH 0; CALL 0 1; GIVE").member(0, 1, "COINS; GIVE");
    itself.gives(0, 0, 20, 20, 20).gives(0, 0, 0, 0, 20).throwsOut(0, 0, 21, 0, 7);
  }

  /** 1 0 uses all of its LIMIT; the caller has 46 left when it calls, and two steps to do then. */
  private static void limitThatIsTaken() {
    Due.sentence("LIMIT is the one that was taken (0, if less), but not more than what is left to the caller");
    int[] taken = {LEAST, -1, 0, 1, 44, 45, 46, 47, MOST};
    int[] used = {0, 0, 0, 1, 44, 45, 46, 46, 46};
    for (int i = 0; i < taken.length; i++) {
      Scene s = Scene.of(2).member(0, 0, "ARGUMENT; PUSH 0; PUSH 0; TRY 1 0; DROP; GIVE").member(1, 0, "PUSH 1; BACK 1");
      boolean gives = used[i] <= 44;
      Due.is("call with " + taken[i], s.x.call(0, 0, 0, taken[i], 0, 50), gives ? 1 : 0);
      Due.is("result", s.x.told(0), 6);
      Due.is("entered", s.x.told(3), 2);
      Due.is("used by the other", s.x.frame(1, 3), used[i]);
      Due.is("thrown by the other", s.x.frame(1, 4), 6);
      Due.is("used", s.x.told(1), gives ? 6 + used[i] : 50);
    }
  }

  private static void nothingLeft() {
    Due.sentence("what is left to the caller: nothing, at the last STEP of its LIMIT");
    Scene s = Scene.of(2).member(0, 0, "PUSH 9; PUSH 0; PUSH 0; TRY 1 0").member(1, 0, "PUSH 1; GIVE");
    Due.is("with 4 steps", s.x.call(0, 0, 0, 0, 0, 4), 1);
    Due.is("the other was entered", s.x.told(3), 2);
    Due.is("and threw", s.x.frame(1, 4), 6);
    Due.is("used", s.x.told(1), 4);
    Due.is("with 3 steps", s.x.call(0, 0, 0, 0, 0, 3), 0);
    Due.is("the other was not entered", s.x.told(3), 1);
    Due.is("with 6 steps", s.x.call(0, 0, 0, 0, 0, 6), 1);
    Due.is("the other gave", s.x.frame(1, 5), 1);
  }

  private static void usedIsTakenOff() {
    Due.sentence("what the FRAME used of it, with all that it called, is taken off the caller's");
    Scene s = Scene.of(3).member(2, 0, "PUSH 1; PUSH 2; GIVE").member(1, 0, "PUSH 9; PUSH 0; PUSH 0; CALL 2 0; GIVE");
    s.member(0, 0, "PUSH 90; PUSH 0; PUSH 0; CALL 1 0; PUSH 90; PUSH 0; PUSH 0; CALL 1 0; PLUS; GIVE");
    int all = 10 + 2 * (5 + 3);
    Due.is("just enough", s.x.call(0, 0, 0, 0, 0, all), 1);
    Due.is("used", s.x.told(1), all);
    int[] used = {all, 8, 3, 8, 3};
    for (int k = 0; k < 5; k++) Due.is("used by frame " + k, s.x.frame(k, 3), used[k]);
    Due.is("one less", s.x.call(0, 0, 0, 0, 0, all - 1), 0);
    Due.is("thrown", s.x.told(0), 6);
    Due.is("used", s.x.told(1), all - 1);
  }

  private static void lookGivesNoValue() {
    Due.sentence("By LOOK VALUE is 0, and the FRAME ONLY READS");
    Scene s = Scene.of(2).member(0, 0, "PUSH 5; PUSH 90; PUSH 7; LOOK 1 0; PLUS; GIVE").member(1, 0, "VALUE; ARGUMENT; PLUS; GIVE");
    s.gives(0, 0, 3, 40, 12);
    Due.is("the caller's coins", s.x.coins(0, 0), 40);
    Due.is("the first does not only read", s.x.frame(0, 6), 0);
    Due.is("the second does", s.x.frame(1, 6), 1);
  }

  /** Seven frames of 1 0, the first called or looked at by contract 0, the others in each way that there is. */
  private static void readersCallReaders() {
    Due.sentence("so do FRAMES that one calls that ONLY READS");
    String[] calls = {"PUSH 900; PUSH 0; ARGUMENT; PUSH 1; MINUS; CALL 1 0", "PUSH 900; PUSH 0; ARGUMENT; PUSH 1; MINUS; TRY 1 0; DROP",
        "PUSH 900; ARGUMENT; PUSH 1; MINUS; LOOK 1 0"};
    for (String call : calls) {
      Scene s = Scene.of(2).member(0, 0, "PUSH 900; PUSH 6; LOOK 1 0; SAVE 3").member(0, 1, "PUSH 900; PUSH 0; PUSH 6; CALL 1 0; SAVE 3");
      s.member(1, 0, "ARGUMENT; SKIP " + (call.split(";").length + 1) + "; " + call + "; GIVE; PUSH 2; GIVE");
      s.gives(0, 0, 0, 0, 0);
      Due.is("the caller may write again", s.x.store(0, 3), 2);
      for (int k = 0; k < 8; k++) Due.is("frame " + k, s.x.frame(k, 6), k == 0 ? 0 : 1);
      s.gives(0, 1, 0, 0, 0);
      for (int k = 0; k < 8; k++) Due.is("frame " + k, s.x.frame(k, 6), call.contains("LOOK") && k > 1 ? 1 : 0);
    }
  }

  private static void callerIsTheContract() {
    Due.sentence("The CALLER is the CONTRACT");
    for (String call : new String[] {"PUSH 9; PUSH 0; PUSH 0; CALL 7 0; GIVE", "PUSH 9; PUSH 0; LOOK 7 0; GIVE", "PUSH 9; PUSH 0; PUSH 0; TRY 7 0; DROP; GIVE"})
      for (int c = 0; c < 8; c++) Scene.of(8).member(c, 1, call).member(7, 0, "CALLER; GIVE").gives(c, 1, 0, 0, c);
  }

  public static void main(String[] args) {
    noSuchContract();
    eightFrames();
    notInAll();
    guarded();
    guardedFurtherOut();
    ended();
    readersPayNothing();
    whatTheCallerHas();
    orderOfReasons();
    takenAnyway();
    valueGoes();
    limitThatIsTaken();
    nothingLeft();
    usedIsTakenOff();
    lookGivesNoValue();
    readersCallReaders();
    callerIsTheContract();
    Due.end();
  }
}
