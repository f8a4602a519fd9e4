import java.util.List;

/** A ContractFrames whose members are written as texts: "PUSH 5; GIVE". */
final class Scene {
  static final int UNKNOWN = -101, OUTSIDE = -102, STATE = -103, ROOM = -104, NONE = -109;
  static final List<String> CODES = List.of("PUSH", "ARGUMENT", "VALUE", "CALLER", "COINS", "SELF", "LOAD", "SAVE",
      "PLUS", "MINUS", "TIMES", "BY", "BELOW", "SAME", "SKIP", "BACK", "DOUBLE", "DROP", "TURN", "CALL", "TRY", "LOOK",
      "TELL", "SEND", "GIVE", "THROW");

  final ContractFrames x = new ContractFrames();

  /** A scene with so many contracts. */
  static Scene of(int contracts) {
    Scene scene = new Scene();
    for (int i = 0; i < contracts; i++) Due.is("contract()", scene.x.contract(), i);
    return scene;
  }

  /** A scene of one contract whose member 0 has these steps. */
  static Scene ofSteps(String steps) {
    return of(1).member(0, 0, steps);
  }

  Scene member(int contract, int member, String steps) {
    int size = 0;
    for (String step : steps.split(";")) {
      String[] words = step.trim().split(" +");
      int a = words.length > 1 ? Integer.parseInt(words[1]) : 0;
      int b = words.length > 2 ? Integer.parseInt(words[2]) : 0;
      size++;
      Due.is("step " + step, x.step(contract, member, CODES.indexOf(words[0]), a, b), size);
    }
    return this;
  }

  Scene guarded(int contract, int member) {
    x.guard(contract, member, true);
    return this;
  }

  /** User 0 calls a member with a limit of 1000; it must give this. */
  Scene gives(int contract, int member, int argument, int value, int number) {
    Due.is("call of " + contract + " " + member, x.call(0, contract, member, argument, value, 1000), 1);
    Due.is("given by " + contract + " " + member, x.told(0), number);
    return this;
  }

  /** The same, but it must throw this. */
  Scene throwsOut(int contract, int member, int argument, int value, int number) {
    Due.is("call of " + contract + " " + member, x.call(0, contract, member, argument, value, 1000), 0);
    Due.is("thrown by " + contract + " " + member, x.told(0), number);
    return this;
  }

  /** Member 0 of a new contract with these steps, called once, must give this. */
  static void gives(String steps, int argument, int value, int number) {
    int before = Due.wrongSoFar();
    ofSteps(steps).gives(0, 0, argument, value, number);
    if (Due.wrongSoFar() > before) System.out.println("  with " + steps);
  }

  static void throwsOut(String steps, int number) {
    int before = Due.wrongSoFar();
    ofSteps(steps).throwsOut(0, 0, 0, 0, number);
    if (Due.wrongSoFar() > before) System.out.println("  with " + steps);
  }

  /** The coins of all contracts, all users and the pot. */
  long allCoins() {
    long sum = x.coins(2, 0);
    for (int u = 0; u < 4; u++) sum += x.coins(1, u);
    for (int c = 0; c < x.count(0); c++) sum += x.coins(0, c);
    return sum;
  }
}
