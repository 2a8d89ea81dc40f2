import java.util.Random;

/** All promises together: long mixed runs of calls, each answer compared with that of the slow Model. */
final class ModelTest {
    private static final int RUNS = 500;
    // what later calls answer is free
    private static final int CALLS = 512;
    private static final int[] ODD = {-1, -2, 0, 1, 11, 12, 39, 40, 41, 240, 241, 255, 256, 65_536, 1_000_000,
        1_000_001, Integer.MIN_VALUE, Integer.MAX_VALUE};

    private final Random random;
    private final KeyPlan plan = new KeyPlan();
    private final Model model = new Model();
    private final int strokes;
    private final int flavour;
    private final int flavourShare;
    private int tick = 0;

    private ModelTest(int seed) {
        random = new Random(seed);
        strokes = 2 + random.nextInt(seed % 3 == 0 ? 40 : 5);
        flavour = seed % 5;
        flavourShare = random.nextInt(10);
    }

    public static void main(String[] args) {
        for (int run = 0; run < RUNS; run++) {
            ModelTest test = new ModelTest(run);
            for (int call = 1; call <= CALLS; call++) {
                test.oneCall("run " + run + " call " + call + ": ");
            }
        }
        Check.end();
    }

    private int odd(int usual) {
        return random.nextInt(40) == 0 ? ODD[random.nextInt(ODD.length)] : usual;
    }

    private int below(int bound) {
        return odd(random.nextInt(bound));
    }

    private int context() {
        return odd(random.nextInt(model.count(0)));
    }

    private int stroke() {
        return odd(1 + random.nextInt(strokes));
    }

    private int row() {
        int row = 1 + random.nextInt(strokes);
        int length = 1 + random.nextInt(3);
        row += length > 1 ? 256 * (1 + random.nextInt(strokes)) : 0;
        row += length > 2 ? 65_536 * (1 + random.nextInt(strokes)) : 0;
        return odd(row);
    }

    private int command() {
        return odd(random.nextInt(12));
    }

    private int nextTick() {
        tick += random.nextInt(4) == 0 ? 5 + random.nextInt(20) : random.nextInt(3);
        return random.nextInt(20) == 0 ? odd(tick - random.nextInt(10)) : tick;
    }

    /** A run does one kind of calls more than the others, so that maps get full, lines long and wishes many. */
    private int kind() {
        return random.nextInt(10) < flavourShare ? flavour : random.nextInt(5);
    }

    private void oneCall(String at) {
        switch (kind()) {
            case 0: mapCall(at); break;
            case 1: typingCall(at); break;
            case 2: assigningCall(at); break;
            case 3: changesCall(at); break;
            default: askingCall(at); break;
        }
    }

    private void mapCall(String at) {
        int c = context();
        int r = row();
        if (random.nextInt(12) == 0) {
            Check.due(at + "context(" + c + ")", plan.context(c), model.context(c));
            return;
        }
        int command = random.nextInt(6) == 0 ? 40 - 41 * random.nextInt(2) : command();
        Check.due(at + "bind(" + c + ", " + r + ", " + command + ")", plan.bind(c, r, command),
            model.bind(c, r, command));
    }

    private void typingCall(String at) {
        int n = random.nextInt(20);
        int t = nextTick();
        if (n == 0) {
            int p = odd(random.nextInt(30));
            Check.due(at + "patience(" + p + ")", plan.patience(p), model.patience(p));
        } else if (n == 1) {
            int c = context();
            Check.due(at + "go(" + c + ")", plan.go(c), model.go(c));
        } else if (n == 2) {
            Check.due(at + "settle(" + t + ")", plan.settle(t), model.settle(t));
        } else {
            int s = stroke();
            Check.due(at + "type(" + s + ", " + t + ")", plan.type(s, t), model.type(s, t));
        }
    }

    private void assigningCall(String at) {
        int n = random.nextInt(24);
        int command = command();
        int s = stroke();
        if (n < 6) {
            int c = context();
            Check.due(at + "want(" + command + ", " + c + ")", plan.want(command, c), model.want(command, c));
        } else if (n < 13) {
            Check.due(at + "offer(" + s + ")", plan.offer(s), model.offer(s));
        } else if (n == 13 && random.nextInt(3) == 0) {
            plan.clear();
            model.clear();
        } else if (n < 17) {
            int price = below(30);
            Check.due(at + "stretch(" + s + ", " + price + ")", plan.stretch(s, price), model.stretch(s, price));
        } else if (n < 20) {
            int uses = below(8);
            Check.due(at + "uses(" + command + ", " + uses + ")", plan.uses(command, uses),
                model.uses(command, uses));
        } else {
            int of = random.nextInt(5) == 0 ? 0 : s;
            int weight = below(60);
            Check.due(at + "habit(" + command + ", " + of + ", " + weight + ")", plan.habit(command, of, weight),
                model.habit(command, of, weight));
        }
    }

    private void changesCall(String at) {
        int n = random.nextInt(24);
        if (n == 0) {
            plan.keep();
            model.keep();
        } else if (n == 1) {
            Check.due(at + "back()", plan.back(), model.back());
        } else if (n < 4) {
            Check.due(at + "apply()", plan.apply(), model.apply());
        } else if (n == 4) {
            Check.due(at + "cheapest()", plan.cheapest(), model.cheapest());
        } else if (n == 5) {
            Check.due(at + "broken()", plan.broken(), model.broken());
        } else if (n == 6) {
            int i = below(6);
            Check.due(at + "assigned(" + i + ")", plan.assigned(i), model.assigned(i));
        } else {
            int i = below(20);
            int what = below(4);
            Check.due(at + "change(" + i + ", " + what + ")", plan.change(i, what), model.change(i, what));
        }
    }

    private void askingCall(String at) {
        int c = context();
        int r = row();
        int i = below(12);
        int what = below(2);
        switch (random.nextInt(9)) {
            case 0: Check.due(at + "has(" + c + ", " + r + ")", plan.has(c, r), model.has(c, r)); break;
            case 1: Check.due(at + "means(" + c + ", " + r + ")", plan.means(c, r), model.means(c, r)); break;
            case 2: dueOut(at, i, what); break;
            case 3: dueOut(at, model.count(3) - 1, what); break;
            case 4: Check.due(at + "learn(" + i + ")", plan.learn(i), model.learn(i)); break;
            case 5: Check.due(at + "saves(" + i + ")", plan.saves(i), model.saves(i)); break;
            case 6: Check.due(at + "fights(" + c + ")", plan.fights(c), model.fights(c)); break;
            case 7: Check.due(at + "fight(" + c + ", " + i + ", " + what + ")", plan.fight(c, i, what),
                model.fight(c, i, what)); break;
            default: int n = below(9);
                Check.due(at + "count(" + n + ")", plan.count(n), model.count(n)); break;
        }
    }

    private void dueOut(String at, int i, int what) {
        Check.due(at + "out(" + i + ", " + what + ")", Check.out(plan, i, what), model.out(i, what));
    }
}
