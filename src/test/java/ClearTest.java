/** Promise 13. */
public final class ClearTest {
  private static void asAtTheBeginning(Scene s) {
    for (int what = 0; what < 4; what++) Due.is("count(" + what + ")", s.x.count(what), 0);
    for (int what = 0; what < 6; what++) Due.is("told(" + what + ")", s.x.told(what), Scene.STATE);
    for (int user = 0; user < 4; user++) Due.is("coins of " + user, s.x.coins(1, user), 10000);
    Due.is("the pot", s.x.coins(2, 0), 0);
    Due.is("frame", s.x.frame(0, 0), Scene.NONE);
    Due.is("event", s.x.event(0, 0), Scene.NONE);
    Due.is("store", s.x.store(0, 0), Scene.UNKNOWN);
    Due.is("contract's coins", s.x.coins(0, 0), Scene.UNKNOWN);
  }

  public static void main(String[] args) {
    Scene s = Scene.of(2).member(1, 2, "PUSH 1; SAVE 3; PUSH 2; TELL 3; PUSH 4; SEND 2; PUSH 5; GIVE").member(0, 0, "THROW 10");
    s.guarded(1, 2).throwsOut(0, 0, 0, 0, 10).gives(1, 2, 0, 100, 5);
    Due.is("clear", s.x.clear(), 2);
    asAtTheBeginning(s);
    Due.is("clear once more", s.x.clear(), 0);
    Due.is("contract", s.x.contract(), 0);
    Due.is("contract", s.x.contract(), 1);
    Due.is("its store", s.x.store(1, 3), 0);
    Due.is("its coins", s.x.coins(0, 1), 0);
    Due.is("its guard", s.x.guard(1, 2, false), 0);
    Due.is("its steps", s.x.empty(1, 2), 0);
    s.member(1, 2, "PUSH 0; SAVE 3; PUSH 6; GIVE").gives(1, 2, 0, 0, 6);
    Due.is("nothing back", s.x.told(2), 0);
    Due.is("no events", s.x.told(5), 0);
    for (int n = 2; n < 8; n++) Due.is("contract", s.x.contract(), n);
    Due.is("clear of eight", s.x.clear(), 8);
    asAtTheBeginning(s);
    Due.end();
  }
}
