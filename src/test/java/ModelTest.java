import java.util.Arrays;
import java.util.Random;

/** All promises: random runs of calls, each answer compared with the model's. The seeds are fixed. */
public final class ModelTest {
  /** Nothing is promised of an object after its 512th call. */
  private static final int RUNS = 8000, MOST_CALLS = 512, CALLS_AHEAD_OF_LOOKING = 300;

  private final Random random;
  private final int run;
  private final ContractFrames x = new ContractFrames();
  private final Model model = new Model();
  private int calls = 0;
  /** How often calls threw each number, to see that the runs reach what can be thrown. */
  private static final int[] thrown = new int[100];
  private static int gave = 0;

  private ModelTest(int run) {
    this.run = run;
    random = new Random(run);
  }

  private int from(int low, int high) {
    return low + random.nextInt(high - low + 1);
  }

  /** Mostly within the bounds, now and then just outside them or far away. */
  private int near(int low, int high) {
    int luck = random.nextInt(60);
    if (luck == 0) return low - 1;
    if (luck == 1) return high + 1;
    if (luck == 2) return random.nextInt();
    return from(low, high);
  }

  private void same(String what, int got, int want) {
    calls++;
    if (got != want) Due.is("run " + run + ": " + what, got, want);
  }

  private int number() {
    switch (random.nextInt(8)) {
      case 0: return random.nextInt();
      case 1: return from(20, 400);
      case 2: return 0;
      default: return from(-2, 12);
    }
  }

  private void oneStep(int c, int m, int code, int a, int b) {
    same("step " + code + " " + a + " " + b, x.step(c, m, code, a, b), model.step(c, m, code, a, b));
  }

  private void named(int c, int m, String code, int a, int b) {
    oneStep(c, m, Scene.CODES.indexOf(code), a, b);
  }

  private int other() {
    return random.nextInt(12) == 0 ? from(0, 7) : from(0, 3);
  }

  /** One step, or some that belong together, so that rows of steps often do something before they throw. */
  private void addSteps() {
    int c = near(0, 3);
    int m = near(0, 3);
    switch (random.nextInt(13)) {
      case 12:
        named(c, m, "LOAD", from(0, 3), 0);
        named(c, m, "TELL", number(), 0);
        named(c, m, "PUSH", from(0, 5), 0);
        named(c, m, "BACK", from(3, 5), 0);
        break;
      case 0: case 1: case 2:
        named(c, m, "PUSH", from(0, 9) == 0 ? from(-3, 5) : from(20, 600), 0);
        if (random.nextBoolean()) named(c, m, "PUSH", from(0, 2) == 0 ? from(-1, 30) : 0, 0);
        else named(c, m, random.nextBoolean() ? "VALUE" : "LOAD", from(0, 7), 0);
        named(c, m, random.nextBoolean() ? "ARGUMENT" : "PUSH", number(), 0);
        named(c, m, random.nextInt(3) == 0 ? "CALL" : "TRY", other(), from(0, 3));
        break;
      case 3:
        named(c, m, "PUSH", from(0, 400), 0);
        named(c, m, "ARGUMENT", 0, 0);
        named(c, m, "LOOK", other(), from(0, 3));
        break;
      case 4: case 5:
        named(c, m, "PUSH", random.nextBoolean() ? 0 : number(), 0);
        named(c, m, "SAVE", from(0, 3), 0);
        break;
      case 6:
        named(c, m, "ARGUMENT", 0, 0);
        named(c, m, random.nextBoolean() ? "TELL" : "SEND", from(0, 3), 0);
        break;
      case 7:
        named(c, m, "LOAD", from(0, 3), 0);
        named(c, m, random.nextBoolean() ? "SKIP" : "BACK", from(1, 9), 0);
        break;
      case 8:
        named(c, m, "PUSH", number(), 0);
        named(c, m, "ARGUMENT", number(), 0);
        oneStep(c, m, from(8, 13), 0, 0);
        break;
      case 9:
        named(c, m, "PUSH", number(), 0);
        break;
      default:
        oneStep(c, m, near(0, 24), random.nextInt(4) == 0 ? near(0, 20) : from(1, 3), near(0, 3));
        if (random.nextInt(9) == 0) named(c, m, "THROW", near(10, 99), 0);
    }
  }

  private void call() {
    int user = near(0, 3);
    int c = near(0, 3);
    int m = near(0, 3);
    int argument = number();
    int value = random.nextInt(4) == 0 ? near(0, 10000) / 20 : from(0, 40);
    int limit = random.nextInt(4) == 0 ? near(1, 1000) : from(1, 1000);
    int answer = model.call(user, c, m, argument, value, limit);
    same("call", x.call(user, c, m, argument, value, limit), answer);
    if (answer == 0) thrown[model.told(0)]++;
    if (answer == 1) gave++;
    for (int what = 0; what < 6; what++) same("told " + what, x.told(what), model.told(what));
  }

  /** One of the calls that change nothing. */
  private void lookAtOne() {
    int kind = near(0, 2);
    int k = near(0, random.nextBoolean() ? 4 : 61);
    int c = near(0, 7);
    int what = near(0, 6);
    switch (random.nextInt(10)) {
      case 0: same("told " + what, x.told(what), model.told(what)); break;
      case 1: same("count " + what, x.count(what), model.count(what)); break;
      case 2: case 3: same("store " + c + " " + k, x.store(c, k), model.store(c, k)); break;
      case 4: case 5: same("coins " + kind + " " + c, x.coins(kind, c), model.coins(kind, c)); break;
      case 6: case 7: same("event " + k + " " + what, x.event(k, what), model.event(k, what)); break;
      default: same("frame " + k + " " + what, x.frame(k, what), model.frame(k, what));
    }
  }

  private void lookAtCoins() {
    int sum = 0;
    for (int kind = 0; kind < 3; kind++)
      for (int who = 0; who < (kind == 0 ? model.count(0) : kind == 1 ? 4 : 1); who++) {
        int coins = x.coins(kind, who);
        same("coins " + kind + " " + who, coins, model.coins(kind, who));
        sum += coins;
      }
    if (sum != 40000) Due.is("run " + run + ": coins of all", sum, 40000);
  }

  private void guardOne(int c, int m, boolean on) {
    same("guard", x.guard(c, m, on), model.guard(c, m, on));
  }

  private void someCall() {
    int luck = random.nextInt(200);
    int c = near(0, 3);
    int m = near(0, 3);
    boolean on = random.nextInt(3) == 0;
    if (luck < 60) call();
    else if (luck < 170) addSteps();
    else if (luck < 183) same("empty", x.empty(c, m), model.empty(c, m));
    else if (luck < 195) guardOne(c, m, on);
    else if (luck < 199) same("contract", x.contract(), model.contract());
    else if (random.nextInt(8) == 0) same("clear", x.clear(), model.clear());
    if (random.nextInt(4) == 0) lookAtOne();
  }

  private void go() {
    for (int n = random.nextInt(5); n >= 0; n--) same("contract", x.contract(), model.contract());
    for (int n = 0; n < 40; n++) addSteps();
    for (int n = random.nextInt(8); n > 0; n--) guardOne(from(0, 3), from(0, 3), true);
    while (calls < CALLS_AHEAD_OF_LOOKING) someCall();
    lookAtCoins();
    while (calls < MOST_CALLS) lookAtOne();
  }

  public static void main(String[] args) {
    for (int run = 0; run < RUNS && Due.wrongSoFar() < 20; run++) new ModelTest(run).go();
    System.out.println("calls that gave: " + gave + ", that threw 1, 2, ..: " + Arrays.toString(Arrays.copyOfRange(thrown, 1, 10)));
    for (int number = 1; number <= 9; number++) Due.is("the runs threw " + number, thrown[number] > 9 ? 1 : 0, 1);
    Due.end();
  }
}
