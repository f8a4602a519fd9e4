/** Promise 6: what call() answers and refuses, and what the user pays. */
public final class CallTest {
  private static void refusals() {
    Scene s = Scene.of(2).member(0, 0, "PUSH 1; SAVE 0; PUSH 5; GIVE");
    s.gives(0, 0, 0, 0, 5);
    for (int user : new int[] {-1, 4, 100, Integer.MAX_VALUE})
      Due.is("user " + user, s.x.call(user, 0, 0, 0, 0, 9), Scene.UNKNOWN);
    for (int c : new int[] {-1, 2, 8, Integer.MIN_VALUE})
      Due.is("contract " + c, s.x.call(0, c, 0, 0, 0, 9), Scene.UNKNOWN);
    for (int m : new int[] {-1, 4, Integer.MAX_VALUE}) Due.is("member " + m, s.x.call(0, 0, m, 0, 0, 9), Scene.OUTSIDE);
    for (int v : new int[] {-1, 10001, Integer.MAX_VALUE, Integer.MIN_VALUE})
      Due.is("value " + v, s.x.call(0, 0, 0, 0, v, 9), Scene.OUTSIDE);
    for (int l : new int[] {0, -1, 1001, Integer.MAX_VALUE, Integer.MIN_VALUE})
      Due.is("limit " + l, s.x.call(0, 0, 0, 0, 0, l), Scene.OUTSIDE);
    Due.is("UNKNOWN ahead of OUTSIDE", s.x.call(0, 2, 4, 0, -1, 0), Scene.UNKNOWN);
    Due.is("OUTSIDE ahead of STATE", s.x.call(0, 1, 0, 0, 0, 0), Scene.OUTSIDE);
    Due.is("no steps", s.x.call(0, 1, 0, 0, 0, 9), Scene.STATE);
    Due.is("too much together", s.x.call(1, 0, 0, 0, 10000, 1), Scene.STATE);
    Due.is("count(1)", s.x.count(1), 1);
    Due.is("count(2)", s.x.count(2), 0);
    Due.is("told(0) is still of the first", s.x.told(0), 5);
    Due.is("told(1) is still of the first", s.x.told(1), 4);
    Due.is("coins of user 1", s.x.coins(1, 1), 10000);
  }

  private static void edges() {
    Scene s = Scene.ofSteps("PUSH 5; GIVE");
    Due.is("all his coins", s.x.call(0, 0, 0, 0, 9998, 2), 1);
    Due.is("his coins", s.x.coins(1, 0), 0);
    Due.is("nothing left", s.x.call(0, 0, 0, 0, 0, 1), Scene.STATE);
    Due.is("limit 1000", s.x.call(1, 0, 0, 0, 9000, 1000), 1);
    Due.is("limit is paid only as used", s.x.coins(1, 1), 998);
    Due.is("998 is less than 999", s.x.call(1, 0, 0, 0, 0, 999), Scene.STATE);
    Due.is("998 is enough for 998", s.x.call(1, 0, 0, 0, 0, 998), 1);
    Due.is("value 10000 with more coins", Scene.ofSteps("PUSH 5; GIVE").x.call(3, 0, 0, 0, 10000, 1), Scene.STATE);
    Due.is("limit 1 is one step", Scene.ofSteps("PUSH 5").x.call(3, 0, 0, 0, 0, 1), 1);
    Due.is("limit 1 is not two steps", Scene.ofSteps("PUSH 5; GIVE").x.call(3, 0, 0, 0, 0, 1), 0);
    Due.is("coins of all", s.allCoins(), 40000);
  }

  /** A user who was sent coins has more than 10000, so that VALUE 10000 can be paid. */
  private static void mostValue() {
    Scene s = Scene.ofSteps("VALUE; SEND 2").member(0, 1, "COINS; GIVE");
    s.gives(0, 0, 0, 500, 0);
    Due.is("coins of user 2", s.x.coins(1, 2), 10500);
    Due.is("value 10000", s.x.call(2, 0, 1, 0, 10000, 500), 1);
    Due.is("told(0)", s.x.told(0), 10000);
    Due.is("coins of user 2", s.x.coins(1, 2), 498);
    Due.is("coins of all", s.allCoins(), 40000);
  }

  private static void payingWhenThrown() {
    Scene s = Scene.ofSteps("PUSH 1; SAVE 0; PUSH 3; TELL 1; PUSH 2; SEND 1; THROW 44");
    s.throwsOut(0, 0, 0, 50, 44);
    Due.is("used", s.x.told(1), 7);
    Due.is("user 0", s.x.coins(1, 0), 9993);
    Due.is("user 1", s.x.coins(1, 1), 10000);
    Due.is("contract", s.x.coins(0, 0), 0);
    Due.is("pot", s.x.coins(2, 0), 7);
    Due.is("store", s.x.store(0, 0), 0);
    Due.is("events", s.x.told(5), 0);
  }

  private static void givenBack() {
    Scene s = Scene.ofSteps("ARGUMENT; SAVE 0; ARGUMENT; SAVE 1; ARGUMENT; SAVE 2").member(0, 1, "PUSH 0; SAVE 0; THROW 11");
    s.gives(0, 0, 0, 0, 0);
    Due.is("0 stays 0", s.x.told(2), 0);
    s.gives(0, 0, 7, 0, 0);
    Due.is("0 becomes 7", s.x.told(2), 0);
    s.throwsOut(0, 1, 0, 0, 11);
    Due.is("thrown", s.x.told(2), 0);
    s.gives(0, 0, 0, 0, 0);
    Due.is("three become 0", s.x.told(2), 3);
    Due.is("used", s.x.told(1), 6);
    Due.is("user 0", s.x.coins(1, 0), 10000 - 6 - 6 - 3 - 3);
    Due.is("pot", s.x.coins(2, 0), 18);
  }

  /** Each save takes a number that another step has put there, so half of the steps is also the most there can be. */
  private static void givenBackAtMostHalf() {
    Scene s = Scene.ofSteps("ARGUMENT; DOUBLE; DOUBLE; SAVE 0; SAVE 1; SAVE 2");
    s.member(0, 1, "ARGUMENT; DOUBLE; DOUBLE; DOUBLE; DOUBLE; SAVE 0; SAVE 1; SAVE 2; SAVE 3; SAVE 4");
    s.member(0, 2, "VALUE; SAVE 0; VALUE; VALUE; VALUE; SAVE 1; SAVE 2; SAVE 3");
    s.member(0, 3, "PUSH 7; SAVE 0; PUSH 0; SAVE 0; PUSH 7; SAVE 0; PUSH 0; SAVE 0");
    s.gives(0, 0, 7, 0, 0).gives(0, 0, 0, 0, 0);
    Due.is("3 of 6", s.x.told(2), 3);
    s.gives(0, 1, 7, 0, 0).gives(0, 1, 0, 0, 0);
    Due.is("5 of 10", s.x.told(2), 5);
    s.gives(0, 1, 7, 0, 0).gives(0, 2, 0, 0, 0);
    Due.is("4 of 8", s.x.told(2), 4);
    s.gives(0, 3, 0, 0, 0);
    Due.is("each save counts", s.x.told(2), 2);
  }

  public static void main(String[] args) {
    refusals();
    edges();
    mostValue();
    payingWhenThrown();
    givenBack();
    givenBackAtMostHalf();
    Due.end();
  }
}
