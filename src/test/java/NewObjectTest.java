/** Promise 1. */
public final class NewObjectTest {
  public static void main(String[] args) {
    ContractFrames x = new ContractFrames();
    for (int what = 0; what < 4; what++) Due.is("count(" + what + ")", x.count(what), 0);
    for (int user = 0; user < 4; user++) Due.is("coins(1, " + user + ")", x.coins(1, user), 10000);
    Due.is("coins(2, 0)", x.coins(2, 0), 0);
    Due.is("coins(0, 0)", x.coins(0, 0), Scene.UNKNOWN);
    Due.is("store(0, 0)", x.store(0, 0), Scene.UNKNOWN);
    Due.is("step", x.step(0, 0, 0, 0, 0), Scene.UNKNOWN);
    Due.is("empty", x.empty(0, 0), Scene.UNKNOWN);
    Due.is("guard", x.guard(0, 0, true), Scene.UNKNOWN);
    Due.is("call", x.call(0, 0, 0, 0, 0, 1), Scene.UNKNOWN);
    for (int what = 0; what < 6; what++) Due.is("told(" + what + ")", x.told(what), Scene.STATE);
    Due.is("frame(0, 0)", x.frame(0, 0), Scene.NONE);
    Due.is("event(0, 0)", x.event(0, 0), Scene.NONE);
    ContractFrames other = new ContractFrames();
    other.contract();
    Due.is("count(0) beside another object", x.count(0), 0);
    Due.end();
  }
}
