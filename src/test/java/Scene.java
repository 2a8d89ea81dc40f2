import java.util.ArrayList;
import java.util.List;

/**
 * A state of an object, made anew as often as it is needed, and the looks that show whether a call has changed it.
 * Each look has an object of its own, so that it may type, apply or go back, and no object gets beyond 512 calls.
 */
final class Scene {
    interface Steps {
        void take(KeyPlan x);
    }

    interface Call {
        long ask(KeyPlan x);
    }

    private interface Look {
        void at(KeyPlan x, List<Long> answers);
    }

    private static final int CHANGES_A_LOOK = 25;
    private static final int LATEST_OUT = 20;
    private static final int[] STROKES = {1, 2, 5, 6, 7, 100, 239, 240};
    private static final int[] COMMANDS = {0, 1, 2, 3, 38, 39};
    private static final int[] ROWS = {1, 5, 6, 7, 240, Check.row(5, 6), Check.row(5, 6, 7), Check.row(1, 1),
        Check.row(240, 240), Check.row(240, 240, 240)};

    private final Steps steps;
    private final int last;
    private final int patience;
    private final List<String> names = new ArrayList<>();
    private final List<Look> looks = new ArrayList<>();
    private final List<List<Long>> before = new ArrayList<>();

    /** A state that steps lead to, with the tick of the last stroke and the patience that it has then. */
    Scene(Steps steps, int last, int patience) {
        this.steps = steps;
        this.last = last;
        this.patience = patience;
        lookAtMap();
        lookAtChanges();
        lookAtTyping();
        lookAtAssigning();
        lookAtLearning();
        for (Look look : looks) {
            before.add(answers(make(), look));
        }
    }

    static Scene fresh() {
        return new Scene(x -> { }, 0, 10);
    }

    /** Four contexts (1 and 3 in 0, 2 in 1), a map that is not the kept one, two strokes that wait, three wanted. */
    static Scene busy() {
        return new Scene(Scene::makeBusy, 31, 20);
    }

    /** Twelve contexts, a map of 120, six wanted, eight offered, two strokes that wait. */
    static Scene full() {
        return new Scene(Scene::makeFull, 41, 10);
    }

    /** Of 401 commands that went out 400 are kept; one stroke waits. */
    static Scene typedMuch() {
        return new Scene(Scene::makeTypedMuch, 402, 10);
    }

    private static void makeBusy(KeyPlan x) {
        x.context(0);
        x.context(1);
        x.context(0);
        x.bind(0, 5, 1);
        x.bind(0, 7, 3);
        x.bind(0, Check.row(5, 6), 2);
        x.bind(0, Check.row(5, 6, 7), 3);
        x.bind(0, Check.row(240, 240, 240), 38);
        x.bind(1, 5, KeyPlan.FREE);
        x.bind(1, 6, 0);
        x.bind(2, 240, 39);
        x.bind(3, 1, 0);
        x.keep();
        x.bind(0, Check.row(1, 1), 38);
        x.bind(2, 240, 2);
        x.bind(3, 1, KeyPlan.NONE);
        x.patience(20);
        x.go(3);
        x.type(7, 2);
        x.type(100, 3);
        x.type(5, 30);
        x.type(6, 31);
        x.stretch(1, 3);
        x.stretch(5, 12);
        x.stretch(240, 7);
        x.uses(0, 4);
        x.uses(2, 5);
        x.uses(39, 9);
        x.habit(0, 240, 30);
        x.habit(1, 7, 0);
        x.habit(39, 1, 11);
        x.want(0, 0);
        x.want(39, 2);
        x.want(1, 3);
        x.offer(240);
        x.offer(1);
        x.offer(7);
    }

    private static void makeFull(KeyPlan x) {
        for (int inner = 1; inner < 12; inner++) {
            x.context((inner - 1) / 2);
        }
        x.bind(0, 5, 1);
        x.bind(0, 7, 3);
        x.bind(0, Check.row(5, 6, 7), 2);
        for (int i = 0; i < 117; i++) {
            x.bind(i % 12, Check.row(10 + i / 12, 200), i % 41);
            if (i == 60) {
                x.keep();
            }
        }
        x.go(11);
        x.type(5, 40);
        x.type(6, 41);
        int[] contexts = {0, 1, 2, 3, 4, 11};
        for (int i = 0; i < COMMANDS.length; i++) {
            x.want(COMMANDS[i], contexts[i]);
        }
        for (int stroke : STROKES) {
            x.offer(stroke);
        }
    }

    private static void makeTypedMuch(KeyPlan x) {
        x.bind(0, 5, 1);
        x.bind(0, Check.row(240, 6), 2);
        for (int i = 0; i <= 400; i++) {
            x.type(5, i);
        }
        x.type(240, 402);
    }

    KeyPlan make() {
        KeyPlan x = new KeyPlan();
        steps.take(x);
        return x;
    }

    /** The call answers what is due, and whatever is asked or done behind it goes as it does without the call. */
    void dueAndSame(String call, Call asked, long want) {
        for (int i = 0; i < looks.size(); i++) {
            KeyPlan x = make();
            Check.due(call, asked.ask(x), want);
            boolean same = answers(x, looks.get(i)).equals(before.get(i));
            Check.due("nothing has changed behind " + call + ": " + names.get(i), same, true);
        }
    }

    private static List<Long> answers(KeyPlan x, Look look) {
        List<Long> answers = new ArrayList<>();
        look.at(x, answers);
        return answers;
    }

    private void add(String name, Look look) {
        names.add(name);
        looks.add(look);
    }

    private void lookAtMap() {
        add("counts", Scene::counts);
        int contexts = make().count(0);
        for (int context = 0; context < contexts; context++) {
            int c = context;
            add("the map in " + c, (x, answers) -> mapIn(x, c, answers));
            add("fights in " + c, (x, answers) -> fightsIn(x, c, answers));
        }
        add("contexts more", (x, answers) -> {
            for (int i = 0; i < 12; i++) {
                answers.add((long) x.context(i));
            }
            counts(x, answers);
        });
    }

    private static void counts(KeyPlan x, List<Long> answers) {
        for (int what = 0; what <= 8; what++) {
            answers.add((long) x.count(what));
        }
    }

    private static void mapIn(KeyPlan x, int context, List<Long> answers) {
        for (int row : ROWS) {
            answers.add((long) x.has(context, row));
            answers.add((long) x.means(context, row));
        }
    }

    private static void fightsIn(KeyPlan x, int context, List<Long> answers) {
        answers.add((long) x.fights(context));
        for (int i = 0; i < 10; i++) {
            answers.add((long) x.fight(context, i, 0));
            answers.add((long) x.fight(context, i, 1));
        }
    }

    private void lookAtChanges() {
        int changes = make().count(8);
        for (int from = 0; from <= changes; from += CHANGES_A_LOOK) {
            int first = from;
            add("changes from " + first, (x, answers) -> {
                for (int i = first; i < first + CHANGES_A_LOOK; i++) {
                    for (int what = 0; what < 4; what++) {
                        answers.add((long) x.change(i, what));
                    }
                }
            });
        }
        add("back", (x, answers) -> {
            answers.add((long) x.back());
            counts(x, answers);
            mapIn(x, 0, answers);
            mapIn(x, x.count(0) - 1, answers);
        });
    }

    private void lookAtTyping() {
        add("out", Scene::outs);
        add("settle", (x, answers) -> {
            answers.add((long) x.settle(last - 1));
            answers.add((long) x.settle(last));
            counts(x, answers);
            outs(x, answers);
        });
        add("go", (x, answers) -> {
            answers.add(Check.number(x.go(0)));
            counts(x, answers);
            outs(x, answers);
        });
        for (int stroke : STROKES) {
            typedAt(stroke, last - 1);
            typedAt(stroke, last);
            typedAt(stroke, last + patience);
            typedAt(stroke, last + patience + 1);
        }
    }

    private void typedAt(int stroke, int tick) {
        add("stroke " + stroke + " at " + tick, (x, answers) -> {
            answers.add((long) x.type(stroke, tick));
            counts(x, answers);
            outs(x, answers);
        });
    }

    private static void outs(KeyPlan x, List<Long> answers) {
        int latest = Math.min(x.count(3), 400);
        for (int i = Math.max(0, latest - LATEST_OUT); i <= latest; i++) {
            answers.add(Check.out(x, i, 0));
            answers.add(Check.out(x, i, 1));
        }
    }

    private void lookAtAssigning() {
        add("the cheapest", Scene::cheapest);
        add("apply", (x, answers) -> {
            answers.add((long) x.apply());
            counts(x, answers);
            for (int stroke : STROKES) {
                answers.add((long) x.has(0, stroke));
                answers.add((long) x.means(x.count(0) - 1, stroke));
            }
        });
        add("wanted and offered more", (x, answers) -> {
            for (int i = 0; i < STROKES.length; i++) {
                answers.add((long) x.want(COMMANDS[i % COMMANDS.length], 0));
                answers.add((long) x.offer(STROKES[i]));
            }
            cheapest(x, answers);
        });
        for (int command : COMMANDS) {
            add("prices of " + command, (x, answers) -> prices(x, command, answers));
        }
    }

    private static void cheapest(KeyPlan x, List<Long> answers) {
        answers.add((long) x.cheapest());
        answers.add((long) x.broken());
        for (int i = -1; i <= 6; i++) {
            answers.add((long) x.assigned(i));
        }
    }

    private static void prices(KeyPlan x, int command, List<Long> answers) {
        for (int stroke : STROKES) {
            x.clear();
            x.want(command, 0);
            x.offer(stroke);
            answers.add((long) x.cheapest());
            answers.add((long) x.broken());
        }
    }

    private void lookAtLearning() {
        add("learn", (x, answers) -> {
            for (int i = 0; i <= 40; i++) {
                answers.add((long) x.learn(i));
                answers.add((long) x.saves(i));
            }
        });
    }
}
