/** Promise 11. */
public final class CoinsTest {
  public static void main(String[] args) {
    Scene s = Scene.of(2).member(1, 0, "PUSH 4; SEND 2");
    Due.is("call", s.x.call(3, 1, 0, 0, 30, 9), 1);
    Due.is("contract 0", s.x.coins(0, 0), 0);
    Due.is("contract 1", s.x.coins(0, 1), 26);
    Due.is("user 0", s.x.coins(1, 0), 10000);
    Due.is("user 1", s.x.coins(1, 1), 10000);
    Due.is("user 2", s.x.coins(1, 2), 10004);
    Due.is("user 3", s.x.coins(1, 3), 9968);
    for (int who : new int[] {0, -1, 99, Integer.MIN_VALUE}) Due.is("the pot", s.x.coins(2, who), 2);
    for (int who : new int[] {-1, 2, 8, Integer.MAX_VALUE}) Due.is("contract " + who, s.x.coins(0, who), Scene.UNKNOWN);
    for (int who : new int[] {-1, 4, 100, Integer.MIN_VALUE}) Due.is("user " + who, s.x.coins(1, who), Scene.UNKNOWN);
    for (int kind : new int[] {-1, 3, Integer.MAX_VALUE}) Due.is("kind " + kind, s.x.coins(kind, 0), Scene.OUTSIDE);
    Due.is("coins of all", s.allCoins(), 40000);
    Due.end();
  }
}
