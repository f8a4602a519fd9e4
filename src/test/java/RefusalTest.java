import java.util.function.ToIntFunction;

/** "Terms", ahead of part 1: which refusal is told, and that nothing changes then. */
public final class RefusalTest {
  private static final int LEAST = Integer.MIN_VALUE, MOST = Integer.MAX_VALUE;

  /** Three contracts: 0 0 calls 1 1, which is guarded and full; 2 has no steps; user 0 has called once. */
  private static Scene scene() {
    Scene s = Scene.of(3).member(0, 0, "PUSH 3; SAVE 7; PUSH 9; TELL 4; PUSH 90; PUSH 2; PUSH 6; CALL 1 1; GIVE");
    s.member(1, 1, "ARGUMENT; SAVE 0; PUSH 1; TELL 5; PUSH 1; SEND 2; PUSH 0; DROP; PUSH 0; DROP; PUSH 0; DROP; PUSH 0; DROP; "
        + "PUSH 0; DROP; PUSH 0; DROP; PUSH 8; GIVE");
    return s.guarded(1, 1).gives(0, 0, 0, 20, 8);
  }

  /** What is seen now, and what is seen after each member that has steps was called: these tell the steps too. */
  private static String all(ContractFrames x) {
    String now = Look.of(x);
    int inner = x.call(3, 1, 1, 5, 4, 200);
    String afterInner = Look.of(x);
    int outer = x.call(3, 0, 0, 5, 4, 200);
    return now + inner + afterInner + outer + Look.of(x) + x.call(3, 2, 0, 5, 4, 200) + x.empty(1, 1) + x.contract();
  }

  /** This call is refused so, and an object that was asked it is then as one that was not. */
  private static void refused(String what, int due, ToIntFunction<ContractFrames> call) {
    ContractFrames asked = scene().x;
    Due.is(what, call.applyAsInt(asked), due);
    Due.same(what + " changes nothing", all(asked), all(scene().x));
  }

  private static void unknown() {
    Due.sentence("UNKNOWN -101 (a CONTRACT, a USER that there is not)");
    for (int c : new int[] {-1, 3, 7, 8, LEAST, MOST}) {
      refused("step of contract " + c, Scene.UNKNOWN, x -> x.step(c, 0, 0, 0, 0));
      refused("empty of contract " + c, Scene.UNKNOWN, x -> x.empty(c, 1));
      refused("guard of contract " + c, Scene.UNKNOWN, x -> x.guard(c, 0, true));
      refused("call of contract " + c, Scene.UNKNOWN, x -> x.call(0, c, 0, 0, 0, 9));
      refused("store of contract " + c, Scene.UNKNOWN, x -> x.store(c, 0));
      refused("coins of contract " + c, Scene.UNKNOWN, x -> x.coins(0, c));
    }
    for (int user : new int[] {-1, 4, 100, LEAST, MOST}) {
      refused("call by user " + user, Scene.UNKNOWN, x -> x.call(user, 0, 0, 0, 0, 99));
      refused("coins of user " + user, Scene.UNKNOWN, x -> x.coins(1, user));
    }
  }

  private static void outside() {
    Due.sentence("OUTSIDE -102 (another number out of its bounds)");
    for (int m : new int[] {-1, 4, LEAST, MOST}) {
      refused("step of member " + m, Scene.OUTSIDE, x -> x.step(0, m, 0, 0, 0));
      refused("empty of member " + m, Scene.OUTSIDE, x -> x.empty(1, m));
      refused("guard of member " + m, Scene.OUTSIDE, x -> x.guard(0, m, true));
      refused("call of member " + m, Scene.OUTSIDE, x -> x.call(0, 0, m, 0, 0, 99));
    }
    for (int code : new int[] {-1, 26, LEAST, MOST}) refused("code " + code, Scene.OUTSIDE, x -> x.step(0, 0, code, 1, 1));
    for (int value : new int[] {-1, 10001, LEAST, MOST})
      refused("value " + value, Scene.OUTSIDE, x -> x.call(0, 0, 0, 0, value, 99));
    for (int limit : new int[] {0, -1, 1001, LEAST, MOST})
      refused("limit " + limit, Scene.OUTSIDE, x -> x.call(0, 0, 0, 0, 0, limit));
    for (int what : new int[] {-1, LEAST, MOST}) {
      refused("told " + what, Scene.OUTSIDE, x -> x.told(what));
      refused("frame " + what, Scene.OUTSIDE, x -> x.frame(0, what));
      refused("event " + what, Scene.OUTSIDE, x -> x.event(0, what));
      refused("coins " + what, Scene.OUTSIDE, x -> x.coins(what, 0));
      refused("count " + what, Scene.OUTSIDE, x -> x.count(what));
    }
    refused("told 6", Scene.OUTSIDE, x -> x.told(6));
    refused("frame 7", Scene.OUTSIDE, x -> x.frame(0, 7));
    refused("event 4", Scene.OUTSIDE, x -> x.event(0, 4));
    refused("coins 3", Scene.OUTSIDE, x -> x.coins(3, 0));
    refused("count 4", Scene.OUTSIDE, x -> x.count(4));
  }

  private static void stateAndRoom() {
    Due.sentence("STATE -103 (as told), ROOM -104; then nothing changes");
    refused("a member without steps", Scene.STATE, x -> x.call(1, 2, 0, 0, 0, 9));
    refused("a user who has too little", Scene.STATE, x -> x.call(1, 0, 0, 0, 9002, 1000));
    refused("a user who has too little, and no steps", Scene.STATE, x -> x.call(1, 2, 0, 0, 10000, 1000));
    refused("a full member", Scene.ROOM, x -> x.step(1, 1, 0, 5, 0));
    ContractFrames full = eight();
    String before = Look.of(full);
    Due.is("a ninth contract", full.contract(), Scene.ROOM);
    Due.same("a ninth contract changes nothing", Look.of(full), before);
  }

  private static ContractFrames eight() {
    return Scene.of(8).member(7, 3, "PUSH 3; SAVE 7; PUSH 9; TELL 4; PUSH 5; GIVE").gives(7, 3, 0, 20, 5).x;
  }

  private static void unknownIsFirst() {
    Due.sentence("the first of these that fits: UNKNOWN ahead of OUTSIDE and STATE");
    refused("step, no contract and no member", Scene.UNKNOWN, x -> x.step(3, 4, 0, 0, 0));
    refused("step, no contract and no code", Scene.UNKNOWN, x -> x.step(3, 0, 26, 0, 0));
    refused("step, no contract and a wrong", Scene.UNKNOWN, x -> x.step(3, 0, 6, 8, 0));
    refused("step, no contract and b wrong", Scene.UNKNOWN, x -> x.step(3, 0, 19, 0, 4));
    refused("empty, no contract and no member", Scene.UNKNOWN, x -> x.empty(3, 4));
    refused("guard, no contract and no member", Scene.UNKNOWN, x -> x.guard(3, 4, true));
    refused("call, no user and no member", Scene.UNKNOWN, x -> x.call(4, 0, 4, 0, 0, 9));
    refused("call, no user and value wrong", Scene.UNKNOWN, x -> x.call(4, 0, 0, 0, -1, 9));
    refused("call, no user and limit wrong", Scene.UNKNOWN, x -> x.call(4, 0, 0, 0, 0, 0));
    refused("call, no user and no steps", Scene.UNKNOWN, x -> x.call(4, 2, 0, 0, 0, 9));
    refused("call, no contract and no member", Scene.UNKNOWN, x -> x.call(0, 3, 4, 0, 0, 9));
    refused("call, no contract and value wrong", Scene.UNKNOWN, x -> x.call(0, 3, 0, 0, 10001, 9));
    refused("call, no contract and limit wrong", Scene.UNKNOWN, x -> x.call(0, 3, 0, 0, 0, 1001));
    refused("call, no contract and too little", Scene.UNKNOWN, x -> x.call(0, 3, 0, 0, 10000, 1000));
    refused("call, no user and no contract", Scene.UNKNOWN, x -> x.call(4, 3, 0, 0, 0, 9));
  }

  private static void outsideIsSecond() {
    Due.sentence("the first of these that fits: OUTSIDE ahead of STATE and ROOM");
    refused("call, no member and too little", Scene.OUTSIDE, x -> x.call(0, 0, 4, 0, 10000, 1000));
    refused("call, value wrong and no steps", Scene.OUTSIDE, x -> x.call(0, 2, 0, 0, -1, 9));
    refused("call, value wrong and too little", Scene.OUTSIDE, x -> x.call(0, 0, 0, 0, 10001, 1000));
    refused("call, limit wrong and no steps", Scene.OUTSIDE, x -> x.call(0, 2, 0, 0, 0, 0));
    refused("call, limit wrong and too little", Scene.OUTSIDE, x -> x.call(0, 0, 0, 0, 10000, 1001));
    refused("step, no code and full", Scene.OUTSIDE, x -> x.step(1, 1, 26, 0, 0));
    refused("step, a wrong and full", Scene.OUTSIDE, x -> x.step(1, 1, 14, 0, 0));
    refused("step, b wrong and full", Scene.OUTSIDE, x -> x.step(1, 1, 21, 0, 4));
    ContractFrames x = new ContractFrames();
    Due.is("told, what wrong and no call", x.told(6), Scene.OUTSIDE);
    Due.is("told, what wrong and no call", x.told(-1), Scene.OUTSIDE);
    Due.is("told, no call", x.told(5), Scene.STATE);
    Due.is("told, no call", x.told(0), Scene.STATE);
  }

  private static void noneIsLast() {
    Due.sentence("NONE is -109");
    refused("frame that there is not", Scene.NONE, x -> x.frame(2, 0));
    refused("event that there is not", Scene.NONE, x -> x.event(2, 0));
    refused("store that there is not", Scene.NONE, x -> x.store(0, 8));
    refused("frame, what wrong and none such", Scene.OUTSIDE, x -> x.frame(2, 7));
    refused("event, what wrong and none such", Scene.OUTSIDE, x -> x.event(2, -1));
    refused("store, no contract and none such", Scene.UNKNOWN, x -> x.store(3, 8));
  }

  /** The other side: these change something, so that the comparison is seen to tell it. */
  private static void changesAreSeen() {
    Due.sentence("a call that is not refused changes what all() sees");
    String as = all(scene().x);
    changed("step", as, x -> x.step(0, 0, 0, 0, 0));
    changed("step of a member without", as, x -> x.step(2, 0, 0, 0, 0));
    changed("empty", as, x -> x.empty(1, 1));
    changed("guard off", as, x -> x.guard(1, 1, false));
    changed("guard on", as, x -> x.guard(2, 3, true));
    changed("contract", as, ContractFrames::contract);
    changed("call", as, x -> x.call(1, 1, 1, 0, 1, 90));
    changed("clear", as, ContractFrames::clear);
  }

  private static void changed(String what, String as, ToIntFunction<ContractFrames> call) {
    ContractFrames asked = scene().x;
    call.applyAsInt(asked);
    Due.is(what + " is seen", all(asked).equals(as) ? 0 : 1, 1);
  }

  public static void main(String[] args) {
    unknown();
    outside();
    stateAndRoom();
    unknownIsFirst();
    outsideIsSecond();
    noneIsLast();
    changesAreSeen();
    Due.end();
  }
}
