/** Promise 2. */
public final class ContractTest {
  public static void main(String[] args) {
    ContractFrames x = new ContractFrames();
    for (int c = 0; c < 8; c++) {
      Due.is("coins ahead of contract " + c, x.coins(0, c), Scene.UNKNOWN);
      Due.is("contract()", x.contract(), c);
      Due.is("count(0)", x.count(0), c + 1);
      Due.is("coins", x.coins(0, c), 0);
      for (int k = 0; k < 8; k++) Due.is("store", x.store(c, k), 0);
      for (int m = 0; m < 4; m++) Due.is("empty", x.empty(c, m), 0);
      for (int m = 0; m < 4; m++) Due.is("guard", x.guard(c, m, false), 0);
    }
    Due.is("contract(), the ninth", x.contract(), Scene.ROOM);
    Due.is("contract(), once more", x.contract(), Scene.ROOM);
    Due.is("count(0)", x.count(0), 8);
    Due.is("coins(0, 8)", x.coins(0, 8), Scene.UNKNOWN);
    Due.end();
  }
}
