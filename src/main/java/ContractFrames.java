import java.util.Arrays;

/** Contracts whose members call one another in frames; ../shared/DOC.md has its promises. */
public final class ContractFrames {
    public static final int UNKNOWN = -101, OUTSIDE = -102, STATE = -103, ROOM = -104, NONE = -109;

    private static final int MOST_CONTRACTS = 8;
    private static final int MEMBERS = 4;
    private static final int MOST_STEPS = 20;
    private static final int STORES = 8;
    private static final int USERS = 4;
    private static final int FIRST_COINS = 10000;
    private static final int MOST_VALUE = 10000;
    private static final int MOST_LIMIT = 1000;
    private static final int MOST_DEPTH = 8;
    private static final int MOST_EVENTS = 60;

    private final Program program;
    private final World world;
    private final Report report;
    private final Machine machine;

    public ContractFrames() {
        program = new Program();
        world = new World();
        report = new Report();
        machine = new Machine(program, world, report);
    }

    public int contract() {
        if (program.contracts >= MOST_CONTRACTS) {
            return ROOM;
        }
        program.contracts++;
        return program.contracts - 1;
    }

    public int step(int contract, int member, int code, int a, int b) {
        int refused = refusedMember(contract, member);
        if (refused != 0) {
            return refused;
        }
        if (!Code.fits(code, a, b)) {
            return OUTSIDE;
        }
        Member steps = program.memberOf(contract, member);
        if (steps.size >= MOST_STEPS) {
            return ROOM;
        }
        steps.append(code, a, b);
        return steps.size;
    }

    public int empty(int contract, int member) {
        int refused = refusedMember(contract, member);
        if (refused != 0) {
            return refused;
        }
        Member steps = program.memberOf(contract, member);
        int had = steps.size;
        steps.size = 0;
        return had;
    }

    public int guard(int contract, int member, boolean on) {
        int refused = refusedMember(contract, member);
        if (refused != 0) {
            return refused;
        }
        Member steps = program.memberOf(contract, member);
        int was = steps.guarded ? 1 : 0;
        steps.guarded = on;
        return was;
    }

    public int call(int user, int contract, int member, int argument, int value, int limit) {
        int refused = refusedCall(user, contract, member, value, limit);
        if (refused != 0) {
            return refused;
        }
        machine.runForUser(user, contract, member, argument, value, limit);
        return report.threw ? 0 : 1;
    }

    public int told(int what) {
        if (!within(what, 0, 5)) {
            return OUTSIDE;
        }
        if (!report.made) {
            return STATE;
        }
        switch (what) {
            case 0: return report.result;
            case 1: return report.used;
            case 2: return report.backToUser;
            case 3: return report.entered;
            case 4: return report.deepest;
            default: return world.events;
        }
    }

    public int frame(int k, int what) {
        if (!within(what, 0, Report.COLUMNS - 1)) {
            return OUTSIDE;
        }
        if (!within(k, 0, report.rowsKept() - 1)) {
            return NONE;
        }
        return report.rows[k * Report.COLUMNS + what];
    }

    public int event(int k, int what) {
        if (!within(what, 0, World.EVENT_COLUMNS - 1)) {
            return OUTSIDE;
        }
        if (!within(k, 0, world.events - 1)) {
            return NONE;
        }
        return world.eventRows[k * World.EVENT_COLUMNS + what];
    }

    public int store(int contract, int k) {
        if (!program.has(contract)) {
            return UNKNOWN;
        }
        if (!within(k, 0, STORES - 1)) {
            return NONE;
        }
        return world.stores[contract * STORES + k];
    }

    public int coins(int kind, int who) {
        switch (kind) {
            case 0: return program.has(who) ? world.purses[who] : UNKNOWN;
            case 1: return isUser(who) ? world.purses[World.FIRST_USER + who] : UNKNOWN;
            case 2: return world.purses[World.POT];
            default: return OUTSIDE;
        }
    }

    public int count(int what) {
        switch (what) {
            case 0: return program.contracts;
            case 1: return report.callsThatGave;
            case 2: return report.callsThatThrew;
            case 3: return program.stepsInAll();
            default: return OUTSIDE;
        }
    }

    public int clear() {
        int had = program.contracts;
        program.reset();
        world.reset();
        report.reset();
        return had;
    }

    /** UNKNOWN or OUTSIDE, or 0 if there is such a member. */
    private int refusedMember(int contract, int member) {
        if (!program.has(contract)) {
            return UNKNOWN;
        }
        return within(member, 0, MEMBERS - 1) ? 0 : OUTSIDE;
    }

    /** Why a user's call is refused, or 0 if it is not. */
    private int refusedCall(int user, int contract, int member, int value, int limit) {
        if (!isUser(user)) {
            return UNKNOWN;
        }
        int refused = refusedMember(contract, member);
        if (refused != 0) {
            return refused;
        }
        if (!within(value, 0, MOST_VALUE) || !within(limit, 1, MOST_LIMIT)) {
            return OUTSIDE;
        }
        boolean poor = world.purses[World.FIRST_USER + user] < value + limit;
        return poor || program.memberOf(contract, member).size == 0 ? STATE : 0;
    }

    private static boolean isUser(int user) {
        return within(user, 0, USERS - 1);
    }

    private static boolean within(int number, int lowest, int highest) {
        return number >= lowest && number <= highest;
    }

    /** The codes of the steps. */
    private static final class Code {
        static final int PUSH = 0, ARGUMENT = 1, VALUE = 2, CALLER = 3, COINS = 4, SELF = 5, LOAD = 6, SAVE = 7;
        static final int PLUS = 8, MINUS = 9, TIMES = 10, BY = 11, BELOW = 12, SAME = 13;
        static final int SKIP = 14, BACK = 15, DOUBLE = 16, DROP = 17, TURN = 18;
        static final int CALL = 19, TRY = 20, LOOK = 21, TELL = 22, SEND = 23, GIVE = 24, THROW = 25;

        /** By code: how many numbers a step takes off the stack, and how many it then puts there. */
        private static final int[] TAKES =
            {0, 0, 0, 0, 0, 0, 0, 1, 2, 2, 2, 2, 2, 2, 1, 1, 1, 1, 2, 3, 3, 2, 1, 1, 1, 0};
        private static final int[] PUTS =
            {1, 1, 1, 1, 1, 1, 1, 0, 1, 1, 1, 1, 1, 1, 0, 0, 2, 0, 2, 1, 2, 1, 0, 0, 0, 0};

        static boolean fits(int code, int a, int b) {
            switch (code) {
                case LOAD:
                case SAVE:
                    return within(a, 0, STORES - 1);
                case SKIP:
                case BACK:
                    return within(a, 1, MOST_STEPS);
                case CALL:
                case TRY:
                case LOOK:
                    return within(a, 0, MOST_CONTRACTS - 1) && within(b, 0, MEMBERS - 1);
                case SEND:
                    return within(a, 0, USERS - 1);
                case THROW:
                    return within(a, 10, 99);
                default:
                    return within(code, PUSH, THROW);
            }
        }

        static boolean writes(int code) {
            return code == SAVE || code == TELL || code == SEND;
        }

        static boolean fitsStack(int code, int height) {
            return height >= TAKES[code] && height - TAKES[code] + PUTS[code] <= Frame.MOST_HEIGHT;
        }
    }

    /** What the machine throws of itself; THROW's own numbers begin at 10, so 0 can stand for none. */
    private static final class Thrown {
        static final int NOTHING = 0, NO_MEMBER = 1, ONLY_READS = 2, BY_ZERO = 3, GUARDED = 4;
        static final int TOO_DEEP = 5, NO_LIMIT = 6, NO_COINS = 7, STACK = 8, NO_EVENTS = 9;
    }

    /** A member's row of steps. */
    private static final class Member {
        final int[] codes = new int[MOST_STEPS];
        final int[] firsts = new int[MOST_STEPS];
        final int[] seconds = new int[MOST_STEPS];
        int size;
        boolean guarded;

        void append(int code, int a, int b) {
            codes[size] = code;
            firsts[size] = a;
            seconds[size] = b;
            size++;
        }
    }

    /** The contracts with their members: all rows are made once, and used again after reset. */
    private static final class Program {
        final Member[] members = new Member[MOST_CONTRACTS * MEMBERS];
        int contracts;

        Program() {
            for (int i = 0; i < members.length; i++) {
                members[i] = new Member();
            }
        }

        boolean has(int contract) {
            return contract >= 0 && contract < contracts;
        }

        Member memberOf(int contract, int member) {
            return members[contract * MEMBERS + member];
        }

        int stepsInAll() {
            int sum = 0;
            for (int i = 0; i < members.length; i++) {
                sum += members[i].size;
            }
            return sum;
        }

        void reset() {
            contracts = 0;
            for (int i = 0; i < members.length; i++) {
                members[i].size = 0;
                members[i].guarded = false;
            }
        }
    }

    /** All that a throw undoes. */
    private static final class World {
        static final int FIRST_USER = MOST_CONTRACTS;
        static final int POT = FIRST_USER + USERS;
        static final int EVENT_COLUMNS = 4;

        final int[] stores = new int[MOST_CONTRACTS * STORES];
        /** Coins of the contracts, the users and the pot in one row, so that coins only ever move within it. */
        final int[] purses = new int[POT + 1];
        final int[] eventRows = new int[MOST_EVENTS * EVENT_COLUMNS];
        int events;
        /** Saves of the latest call that made a store 0 that was not. */
        int zeroings;

        World() {
            fillUsersPurses();
        }

        private void fillUsersPurses() {
            Arrays.fill(purses, FIRST_USER, POT, FIRST_COINS);
        }

        void reset() {
            Arrays.fill(stores, 0);
            Arrays.fill(purses, 0);
            fillUsersPurses();
            startCall();
        }

        void startCall() {
            events = 0;
            zeroings = 0;
        }

        void save(int contract, int k, int number) {
            int at = contract * STORES + k;
            if (number == 0 && stores[at] != 0) {
                zeroings++;
            }
            stores[at] = number;
        }

        boolean canPay(int purse, int amount) {
            return amount >= 0 && amount <= purses[purse];
        }

        void move(int from, int to, int amount) {
            purses[from] -= amount;
            purses[to] += amount;
        }

        void addEvent(int contract, int a, int x, int depth) {
            int at = events * EVENT_COLUMNS;
            eventRows[at] = contract;
            eventRows[at + 1] = a;
            eventRows[at + 2] = x;
            eventRows[at + 3] = depth;
            events++;
        }
    }

    /** The world as it was ahead of a frame. */
    private static final class Snapshot {
        private final int[] stores = new int[MOST_CONTRACTS * STORES];
        private final int[] purses = new int[World.POT + 1];
        private int events;
        private int zeroings;

        void keep(World world) {
            System.arraycopy(world.stores, 0, stores, 0, stores.length);
            System.arraycopy(world.purses, 0, purses, 0, purses.length);
            events = world.events;
            zeroings = world.zeroings;
        }

        /** Events are only ever added behind, so their number is enough to undo them. */
        void putBack(World world) {
            System.arraycopy(stores, 0, world.stores, 0, stores.length);
            System.arraycopy(purses, 0, world.purses, 0, purses.length);
            world.events = events;
            world.zeroings = zeroings;
        }
    }

    /** What is told of the latest call, and how many calls gave and threw. */
    private static final class Report {
        static final int COLUMNS = 7;
        private static final int MOST_ROWS = 40;

        final int[] rows = new int[MOST_ROWS * COLUMNS];
        boolean made;
        boolean threw;
        int result;
        int used;
        int backToUser;
        int entered;
        int deepest;
        int callsThatGave;
        int callsThatThrew;

        void reset() {
            made = false;
            callsThatGave = 0;
            callsThatThrew = 0;
            startCall();
        }

        void startCall() {
            entered = 0;
            deepest = 0;
        }

        int rowsKept() {
            return Math.min(entered, MOST_ROWS);
        }

        /** Counts a frame and answers its place in the order of entering. */
        int enter(int depth) {
            deepest = Math.max(deepest, depth);
            entered++;
            return entered - 1;
        }

        void writeRow(int place, Frame frame, int depth) {
            if (place >= MOST_ROWS) {
                return;
            }
            int at = place * COLUMNS;
            rows[at] = frame.contract;
            rows[at + 1] = frame.member;
            rows[at + 2] = depth;
            rows[at + 3] = frame.used();
            rows[at + 4] = frame.threw;
            rows[at + 5] = frame.gave;
            rows[at + 6] = frame.onlyReads ? 1 : 0;
        }

        void endCall(Frame first, int back) {
            made = true;
            threw = first.hasThrown();
            result = threw ? first.threw : first.gave;
            used = first.used();
            backToUser = back;
            if (threw) {
                callsThatThrew++;
            } else {
                callsThatGave++;
            }
        }
    }

    /** A frame; there is one object for each depth, begun anew each time a frame of that depth is entered. */
    private static final class Frame {
        static final int MOST_HEIGHT = 8;

        final int[] stack = new int[MOST_HEIGHT];
        int height;
        int contract;
        int member;
        int argument;
        int value;
        int caller;
        boolean onlyReads;
        private int limit;
        int left;
        int position;
        boolean ended;
        int threw;
        int gave;

        void begin(int ofContract, int ofMember, int withArgument, int withValue, int withLimit) {
            contract = ofContract;
            member = ofMember;
            argument = withArgument;
            value = withValue;
            limit = withLimit;
            left = withLimit;
            height = 0;
            position = 0;
            ended = false;
            threw = Thrown.NOTHING;
            gave = 0;
        }

        int used() {
            return limit - left;
        }

        boolean hasThrown() {
            return threw != Thrown.NOTHING;
        }

        /** Needs no test of the height, nor does take: Code.fitsStack is asked ahead of every step. */
        void put(int number) {
            stack[height] = number;
            height++;
        }

        int take() {
            height--;
            return stack[height];
        }

        void endGiving(int number) {
            ended = true;
            gave = number;
        }

        void endThrowing(int number) {
            ended = true;
            threw = number;
        }
    }

    /** Does the steps of frames. */
    private static final class Machine {
        private static final int FIRST_USER_AS_CALLER = 100;
        /** Every turn but the last uses one of a limit. */
        private static final int MOST_TURNS = MOST_LIMIT + 1;

        private final Program program;
        private final World world;
        private final Report report;
        private final Frame[] frames = new Frame[MOST_DEPTH];
        private final Snapshot[] snapshots = new Snapshot[MOST_DEPTH];

        Machine(Program ofProgram, World ofWorld, Report ofReport) {
            program = ofProgram;
            world = ofWorld;
            report = ofReport;
            for (int i = 0; i < MOST_DEPTH; i++) {
                frames[i] = new Frame();
                snapshots[i] = new Snapshot();
            }
        }

        void runForUser(int user, int contract, int member, int argument, int value, int limit) {
            int purse = World.FIRST_USER + user;
            world.startCall();
            report.startCall();
            Frame first = frames[0];
            first.begin(contract, member, argument, value, limit);
            first.caller = FIRST_USER_AS_CALLER + user;
            first.onlyReads = false;
            runFrame(purse, 1);
            int back = Math.min(world.zeroings, first.used() / 2);
            world.move(purse, World.POT, first.used() - back);
            report.endCall(first, back);
        }

        /** Runs the frame that has been begun at this depth; its value comes from the payer's purse. */
        private void runFrame(int payer, int depth) {
            Frame frame = frames[depth - 1];
            Member steps = program.memberOf(frame.contract, frame.member);
            Snapshot ahead = snapshots[depth - 1];
            int place = report.enter(depth);
            ahead.keep(world);
            world.move(payer, frame.contract, frame.value);
            for (int turn = 0; turn < MOST_TURNS && !frame.ended; turn++) {
                if (frame.position >= steps.size) {
                    frame.endGiving(0);
                } else if (frame.left <= 0) {
                    frame.endThrowing(Thrown.NO_LIMIT);
                } else {
                    frame.left--;
                    frame.position++;
                    doStep(frame, steps, depth);
                }
            }
            if (frame.hasThrown()) {
                ahead.putBack(world);
            }
            report.writeRow(place, frame, depth);
        }

        private void doStep(Frame frame, Member steps, int depth) {
            int at = frame.position - 1;
            int code = steps.codes[at];
            int a = steps.firsts[at];
            if (!Code.fitsStack(code, frame.height)) {
                frame.endThrowing(Thrown.STACK);
            } else if (frame.onlyReads && Code.writes(code)) {
                frame.endThrowing(Thrown.ONLY_READS);
            } else if (code <= Code.LOAD) {
                frame.put(numberFor(frame, code, a));
            } else if (code >= Code.PLUS && code <= Code.SAME) {
                combine(frame, code);
            } else if (code >= Code.SKIP && code <= Code.TURN) {
                arrange(frame, code, a);
            } else if (code >= Code.CALL && code <= Code.LOOK) {
                callOther(frame, code, a, steps.seconds[at], depth);
            } else {
                act(frame, code, a, depth);
            }
        }

        private int numberFor(Frame frame, int code, int a) {
            switch (code) {
                case Code.ARGUMENT: return frame.argument;
                case Code.VALUE: return frame.value;
                case Code.CALLER: return frame.caller;
                case Code.COINS: return world.purses[frame.contract];
                case Code.SELF: return frame.contract;
                case Code.LOAD: return world.stores[frame.contract * STORES + a];
                default: return a;
            }
        }

        private static void combine(Frame frame, int code) {
            int y = frame.take();
            int x = frame.take();
            if (code == Code.BY) {
                divide(frame, x, y);
            } else {
                frame.put(combined(code, x, y));
            }
        }

        private static void divide(Frame frame, int x, int y) {
            if (y == 0) {
                frame.endThrowing(Thrown.BY_ZERO);
            } else {
                frame.put(x / y);
            }
        }

        private static int combined(int code, int x, int y) {
            switch (code) {
                case Code.PLUS: return x + y;
                case Code.MINUS: return x - y;
                case Code.TIMES: return x * y;
                case Code.BELOW: return x < y ? 1 : 0;
                default: return x == y ? 1 : 0;
            }
        }

        /** The steps that change the order, of the steps to come or of the stack. */
        private static void arrange(Frame frame, int code, int a) {
            int last = frame.take();
            if (code == Code.SKIP && last == 0) {
                frame.position += a;
            } else if (code == Code.BACK && last != 0) {
                frame.position = Math.max(0, frame.position - 1 - a);
            } else if (code == Code.DOUBLE) {
                frame.put(last);
                frame.put(last);
            } else if (code == Code.TURN) {
                int other = frame.take();
                frame.put(last);
                frame.put(other);
            }
        }

        /** The steps that change the world, or end the frame. */
        private void act(Frame frame, int code, int a, int depth) {
            if (code == Code.THROW) {
                frame.endThrowing(a);
                return;
            }
            int x = frame.take();
            if (code == Code.SAVE) {
                world.save(frame.contract, a, x);
            } else if (code == Code.TELL) {
                tell(frame, a, x, depth);
            } else if (code == Code.SEND) {
                send(frame, a, x);
            } else {
                frame.endGiving(x);
            }
        }

        private void tell(Frame frame, int a, int x, int depth) {
            if (world.events >= MOST_EVENTS) {
                frame.endThrowing(Thrown.NO_EVENTS);
                return;
            }
            world.addEvent(frame.contract, a, x, depth);
        }

        private void send(Frame frame, int user, int amount) {
            if (!world.canPay(frame.contract, amount)) {
                frame.endThrowing(Thrown.NO_COINS);
                return;
            }
            world.move(frame.contract, World.FIRST_USER + user, amount);
        }

        private void callOther(Frame caller, int code, int contract, int member, int depth) {
            int argument = caller.take();
            int value = code == Code.LOOK ? 0 : caller.take();
            int limit = Math.min(Math.max(caller.take(), 0), caller.left);
            int refused = whyNotEntered(caller, contract, member, value, depth);
            if (refused != Thrown.NOTHING) {
                answerThrown(caller, code, refused);
                return;
            }
            Frame called = frames[depth];
            called.begin(contract, member, argument, value, limit);
            called.caller = caller.contract;
            called.onlyReads = caller.onlyReads || code == Code.LOOK;
            runFrame(caller.contract, depth + 1);
            caller.left -= called.used();
            if (called.hasThrown()) {
                answerThrown(caller, code, called.threw);
            } else {
                answerGiven(caller, code, called.gave);
            }
        }

        private int whyNotEntered(Frame caller, int contract, int member, int value, int depth) {
            if (!program.has(contract) || program.memberOf(contract, member).size == 0) {
                return Thrown.NO_MEMBER;
            }
            if (depth >= MOST_DEPTH) {
                return Thrown.TOO_DEEP;
            }
            if (program.memberOf(contract, member).guarded && isGuardedInside(contract, depth)) {
                return Thrown.GUARDED;
            }
            if (value != 0 && caller.onlyReads) {
                return Thrown.ONLY_READS;
            }
            return world.canPay(caller.contract, value) ? Thrown.NOTHING : Thrown.NO_COINS;
        }

        /** Whether one of the frames that have not ended is of a guarded member of the contract. */
        private boolean isGuardedInside(int contract, int depth) {
            for (int i = 0; i < depth && i < MOST_DEPTH; i++) {
                Frame open = frames[i];
                if (open.contract == contract && program.memberOf(contract, open.member).guarded) {
                    return true;
                }
            }
            return false;
        }

        private static void answerGiven(Frame caller, int code, int number) {
            caller.put(number);
            if (code == Code.TRY) {
                caller.put(1);
            }
        }

        private static void answerThrown(Frame caller, int code, int number) {
            if (code != Code.TRY) {
                caller.endThrowing(number);
                return;
            }
            caller.put(number);
            caller.put(0);
        }
    }
}
