import java.util.ArrayDeque;
import java.util.ArrayList;
import java.util.Arrays;
import java.util.Deque;
import java.util.List;

/** The document once more, written for plainness: exceptions for throws, a copy of the whole state ahead of each frame. */
final class Model {
  private static final int UNKNOWN = -101, OUTSIDE = -102, STATE = -103, ROOM = -104, NONE = -109;

  private static final class Thrown extends RuntimeException {
    private static final long serialVersionUID = 1L;
    final int number;

    Thrown(int number) {
      super(null, null, false, false);
      this.number = number;
    }
  }

  private record Step(String code, int a, int b) {}

  private static final class Member {
    final List<Step> steps = new ArrayList<>();
    boolean guarded;
  }

  /** What a throw puts back. */
  private static final class State {
    final int[][] stores = new int[8][8];
    final int[] contractCoins = new int[8];
    final int[] userCoins = {10000, 10000, 10000, 10000};
    final List<int[]> events = new ArrayList<>();
    int zeroed;

    State copy() {
      State other = new State();
      for (int c = 0; c < 8; c++) other.stores[c] = stores[c].clone();
      System.arraycopy(contractCoins, 0, other.contractCoins, 0, 8);
      System.arraycopy(userCoins, 0, other.userCoins, 0, 4);
      other.events.addAll(events);
      other.zeroed = zeroed;
      return other;
    }
  }

  private static final class Frame {
    int contract, member, argument, value, caller, limit, used;
    boolean onlyReads;
    final Deque<Integer> stack = new ArrayDeque<>();

    int spare() {
      return limit - used;
    }

    int take() {
      return stack.pop();
    }
  }

  private List<Member[]> contracts;
  private State state;
  private int pot, gave, threw;
  private int[] latest;
  private List<int[]> rows;
  private List<Frame> open;
  private int deepest;

  Model() {
    clear();
  }

  int clear() {
    int had = contracts == null ? 0 : contracts.size();
    contracts = new ArrayList<>();
    state = new State();
    rows = new ArrayList<>();
    open = new ArrayList<>();
    pot = gave = threw = deepest = 0;
    latest = null;
    return had;
  }

  int contract() {
    if (contracts.size() == 8) return ROOM;
    contracts.add(new Member[] {new Member(), new Member(), new Member(), new Member()});
    return contracts.size() - 1;
  }

  private boolean isContract(int c) {
    return c >= 0 && c < contracts.size();
  }

  private static boolean outside(int n, int low, int high) {
    return n < low || n > high;
  }

  int step(int c, int m, int code, int a, int b) {
    if (!isContract(c)) return UNKNOWN;
    if (outside(m, 0, 3) || outside(code, 0, 25)) return OUTSIDE;
    String name = Scene.CODES.get(code);
    if (List.of("LOAD", "SAVE").contains(name) && outside(a, 0, 7)) return OUTSIDE;
    if (List.of("SKIP", "BACK").contains(name) && outside(a, 1, 20)) return OUTSIDE;
    if (List.of("CALL", "TRY", "LOOK").contains(name) && (outside(a, 0, 7) || outside(b, 0, 3))) return OUTSIDE;
    if (name.equals("SEND") && outside(a, 0, 3)) return OUTSIDE;
    if (name.equals("THROW") && outside(a, 10, 99)) return OUTSIDE;
    List<Step> steps = contracts.get(c)[m].steps;
    if (steps.size() == 20) return ROOM;
    steps.add(new Step(name, a, b));
    return steps.size();
  }

  int empty(int c, int m) {
    if (!isContract(c)) return UNKNOWN;
    if (outside(m, 0, 3)) return OUTSIDE;
    int had = contracts.get(c)[m].steps.size();
    contracts.get(c)[m].steps.clear();
    return had;
  }

  int guard(int c, int m, boolean on) {
    if (!isContract(c)) return UNKNOWN;
    if (outside(m, 0, 3)) return OUTSIDE;
    boolean was = contracts.get(c)[m].guarded;
    contracts.get(c)[m].guarded = on;
    return was ? 1 : 0;
  }

  int call(int user, int c, int m, int argument, int value, int limit) {
    if (outside(user, 0, 3) || !isContract(c)) return UNKNOWN;
    if (outside(m, 0, 3) || outside(value, 0, 10000) || outside(limit, 1, 1000)) return OUTSIDE;
    if (state.userCoins[user] < value + limit || contracts.get(c)[m].steps.isEmpty()) return STATE;
    rows = new ArrayList<>();
    deepest = 0;
    state.events.clear();
    state.zeroed = 0;
    Frame first = new Frame();
    first.contract = c;
    first.member = m;
    first.argument = argument;
    first.value = value;
    first.limit = limit;
    first.caller = 100 + user;
    int result;
    boolean threwOut = false;
    try {
      result = run(first, user, -1);
      gave++;
    } catch (Thrown t) {
      result = t.number;
      threwOut = true;
      threw++;
    }
    int back = threwOut ? 0 : Math.min(state.zeroed, first.used / 2);
    state.userCoins[user] -= first.used - back;
    pot += first.used - back;
    latest = new int[] {result, first.used, back, rows.size(), deepest, state.events.size()};
    return threwOut ? 0 : 1;
  }

  private int run(Frame f, int fromUser, int fromContract) {
    State ahead = state.copy();
    int[] row = {f.contract, f.member, open.size() + 1, 0, 0, 0, f.onlyReads ? 1 : 0};
    rows.add(row);
    open.add(f);
    deepest = Math.max(deepest, open.size());
    try {
      if (fromUser >= 0) state.userCoins[fromUser] -= f.value;
      if (fromContract >= 0) state.contractCoins[fromContract] -= f.value;
      state.contractCoins[f.contract] += f.value;
      row[5] = doSteps(f);
      return row[5];
    } catch (Thrown t) {
      state = ahead;
      row[4] = t.number;
      throw t;
    } finally {
      row[3] = f.used;
      open.remove(open.size() - 1);
    }
  }

  private static int needs(String code) {
    switch (code) {
      case "CALL": case "TRY": return 3;
      case "PLUS": case "MINUS": case "TIMES": case "BY": case "BELOW": case "SAME": case "TURN": case "LOOK": return 2;
      case "SAVE": case "SKIP": case "BACK": case "DOUBLE": case "DROP": case "TELL": case "SEND": case "GIVE": return 1;
      default: return 0;
    }
  }

  private static boolean addsOne(String code) {
    return List.of("PUSH", "ARGUMENT", "VALUE", "CALLER", "COINS", "SELF", "LOAD", "DOUBLE").contains(code);
  }

  private int doSteps(Frame f) {
    List<Step> steps = contracts.get(f.contract)[f.member].steps;
    int at = 0;
    while (at < steps.size()) {
      if (f.spare() == 0) throw new Thrown(6);
      f.used++;
      Step s = steps.get(at);
      if (f.stack.size() < needs(s.code) || addsOne(s.code) && f.stack.size() == 8) throw new Thrown(8);
      if (s.code.equals("GIVE")) return f.take();
      if (s.code.equals("SKIP")) at += f.take() == 0 ? 1 + s.a : 1;
      else if (s.code.equals("BACK")) at = f.take() != 0 ? Math.max(0, at - s.a) : at + 1;
      else {
        doStep(f, s);
        at++;
      }
    }
    return 0;
  }

  private void doStep(Frame f, Step s) {
    int y;
    switch (s.code) {
      case "PUSH": f.stack.push(s.a); break;
      case "ARGUMENT": f.stack.push(f.argument); break;
      case "VALUE": f.stack.push(f.value); break;
      case "CALLER": f.stack.push(f.caller); break;
      case "COINS": f.stack.push(state.contractCoins[f.contract]); break;
      case "SELF": f.stack.push(f.contract); break;
      case "LOAD": f.stack.push(state.stores[f.contract][s.a]); break;
      case "SAVE": save(f, s.a); break;
      case "PLUS": f.stack.push(f.take() + f.take()); break;
      case "MINUS": f.stack.push(-f.take() + f.take()); break;
      case "TIMES": f.stack.push(f.take() * f.take()); break;
      case "BY":
        y = f.take();
        if (y == 0) throw new Thrown(3);
        f.stack.push((int) ((long) f.take() / y));
        break;
      case "BELOW": f.stack.push(f.take() > f.take() ? 1 : 0); break;
      case "SAME": f.stack.push(f.take() - f.take() == 0 ? 1 : 0); break;
      case "DOUBLE": f.stack.push(f.stack.peek()); break;
      case "DROP": f.take(); break;
      case "TURN":
        y = f.take();
        int x = f.take();
        f.stack.push(y);
        f.stack.push(x);
        break;
      case "TELL": tell(f, s.a); break;
      case "SEND": send(f, s.a); break;
      case "THROW": throw new Thrown(s.a);
      case "TRY":
        try {
          f.stack.push(other(f, s));
          f.stack.push(1);
        } catch (Thrown t) {
          f.stack.push(t.number);
          f.stack.push(0);
        }
        break;
      default: f.stack.push(other(f, s));
    }
  }

  private void save(Frame f, int k) {
    if (f.onlyReads) throw new Thrown(2);
    int x = f.take();
    if (x == 0 && state.stores[f.contract][k] != 0) state.zeroed++;
    state.stores[f.contract][k] = x;
  }

  private void tell(Frame f, int a) {
    if (f.onlyReads) throw new Thrown(2);
    if (state.events.size() == 60) throw new Thrown(9);
    state.events.add(new int[] {f.contract, a, f.take(), open.size()});
  }

  private void send(Frame f, int user) {
    if (f.onlyReads) throw new Thrown(2);
    int x = f.take();
    if (x < 0 || x > state.contractCoins[f.contract]) throw new Thrown(7);
    state.contractCoins[f.contract] -= x;
    state.userCoins[user] += x;
  }

  private int other(Frame f, Step s) {
    boolean look = s.code.equals("LOOK");
    Frame g = new Frame();
    g.contract = s.a;
    g.member = s.b;
    g.argument = f.take();
    g.value = look ? 0 : f.take();
    g.limit = Math.min(f.spare(), Math.max(0, f.take()));
    g.caller = f.contract;
    g.onlyReads = look || f.onlyReads;
    if (!isContract(s.a) || contracts.get(s.a)[s.b].steps.isEmpty()) throw new Thrown(1);
    if (open.size() == 8) throw new Thrown(5);
    Member[] members = contracts.get(s.a);
    if (members[s.b].guarded && open.stream().anyMatch(o -> o.contract == s.a && members[o.member].guarded)) throw new Thrown(4);
    if (g.value != 0 && f.onlyReads) throw new Thrown(2);
    if (g.value < 0 || g.value > state.contractCoins[f.contract]) throw new Thrown(7);
    try {
      return run(g, -1, f.contract);
    } finally {
      f.used += g.used;
    }
  }

  int told(int what) {
    if (outside(what, 0, 5)) return OUTSIDE;
    return latest == null ? STATE : latest[what];
  }

  int frame(int k, int what) {
    if (outside(what, 0, 6)) return OUTSIDE;
    return k < 0 || k >= 40 || k >= rows.size() ? NONE : rows.get(k)[what];
  }

  int event(int k, int what) {
    if (outside(what, 0, 3)) return OUTSIDE;
    return k < 0 || k >= state.events.size() ? NONE : state.events.get(k)[what];
  }

  int store(int c, int k) {
    if (!isContract(c)) return UNKNOWN;
    return outside(k, 0, 7) ? NONE : state.stores[c][k];
  }

  int coins(int kind, int who) {
    if (kind == 0) return isContract(who) ? state.contractCoins[who] : UNKNOWN;
    if (kind == 1) return outside(who, 0, 3) ? UNKNOWN : state.userCoins[who];
    return kind == 2 ? pot : OUTSIDE;
  }

  int count(int what) {
    if (outside(what, 0, 3)) return OUTSIDE;
    int steps = contracts.stream().flatMap(Arrays::stream).mapToInt(m -> m.steps.size()).sum();
    return new int[] {contracts.size(), gave, threw, steps}[what];
  }
}
