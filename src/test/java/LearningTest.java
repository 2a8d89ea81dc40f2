/** Promises 26 to 28: learn, saves, count. */
final class LearningTest {
    private static final int MIN = Integer.MIN_VALUE;
    private static final int MAX = Integer.MAX_VALUE;

    public static void main(String[] args) {
        greatestFirst();
        leastRowAnywhere();
        whatSavesNothing();
        othersSaveNothing();
        allForty();
        counts();
        Check.end();
    }

    private static void dueLearn(KeyPlan x, int... commands) {
        for (int i = 0; i < commands.length; i++) {
            Check.due("learn(" + i + ")", x.learn(i), commands[i]);
        }
        for (int i : new int[] {commands.length, -1, 40, MIN, MAX}) {
            Check.due("learn(" + i + ")", x.learn(i), -1);
        }
    }

    private static void greatestFirst() {
        KeyPlan x = new KeyPlan();
        x.bind(0, 1, 30);
        x.bind(0, 2, 20);
        x.bind(0, Check.row(3, 4), 10);
        dueLearn(x, 20, 30, 10);
        x.uses(10, 2);
        dueLearn(x, 10, 20, 30);
        x.uses(30, 2);
        dueLearn(x, 30, 10, 20);
        Check.due("saves(30)", x.saves(30), 40);
        Check.due("saves(10)", x.saves(10), 20);
        Check.due("saves(20)", x.saves(20), 20);
        x.stretch(4, 0);
        Check.due("saves(10) with a nearer stroke", x.saves(10), 40);
        dueLearn(x, 10, 30, 20);
    }

    private static void leastRowAnywhere() {
        KeyPlan x = new KeyPlan();
        x.context(0);
        x.stretch(1, 3);
        x.bind(0, 7, 5);
        Check.due("one stroke", x.saves(5), 20);
        x.bind(1, Check.row(1, 1, 1), 5);
        Check.due("a nearer row of three, in another context", x.saves(5), 21);
        x.bind(1, Check.row(1, 7), 5);
        Check.due("a farther row more", x.saves(5), 21);
        x.bind(1, 7, 40);
        Check.due("hidden in between", x.saves(5), 21);
        x.bind(1, Check.row(1, 1, 1), -1);
        Check.due("the nearest went", x.saves(5), 20);
        x.uses(5, 1000);
        x.stretch(7, 0);
        Check.due("the most", x.saves(5), 30_000);
    }

    private static void whatSavesNothing() {
        KeyPlan x = new KeyPlan();
        x.bind(0, Check.row(1, 2, 3), 5);
        Check.due("30 less 30", x.saves(5), 0);
        dueLearn(x);
        x.stretch(3, 9);
        Check.due("30 less 29", x.saves(5), 1);
        dueLearn(x, 5);
        x.stretch(3, 100);
        x.uses(5, 1000);
        Check.due("30 less 120", x.saves(5), 0);
        dueLearn(x);
        x.bind(0, 9, 6);
        x.uses(6, 0);
        Check.due("no uses", x.saves(6), 0);
        dueLearn(x);
        x.bind(0, 8, 40);
        dueLearn(x);
    }

    private static void othersSaveNothing() {
        KeyPlan x = new KeyPlan();
        x.bind(0, 8, 40);
        x.bind(0, 9, 39);
        for (int command : new int[] {-1, 0, 40, 41, MIN, MAX}) {
            Check.due("saves(" + command + ")", x.saves(command), 0);
        }
        Check.due("saves(39)", x.saves(39), 20);
    }

    private static void allForty() {
        KeyPlan x = new KeyPlan();
        int[] order = new int[40];
        for (int command = 0; command < 40; command++) {
            x.bind(0, command + 1, command);
            x.stretch(command + 1, (39 - command) / 2);
            order[39 - command] = command;
        }
        for (int pair = 0; pair < 40; pair += 2) {
            int higher = order[pair];
            order[pair] = order[pair + 1];
            order[pair + 1] = higher;
        }
        dueLearn(x, order);
    }

    private static void counts() {
        KeyPlan x = new KeyPlan();
        x.context(0);
        x.context(0);
        x.bind(0, 5, 1);
        x.bind(1, 5, 40);
        x.bind(0, Check.row(5, 6, 7), 2);
        x.keep();
        x.bind(0, 9, 3);
        x.bind(2, 5, 3);
        x.bind(2, 6, 3);
        x.bind(1, 5, -1);
        x.go(2);
        x.go(0);
        x.go(1);
        x.type(9, 1);
        x.type(9, 1);
        x.type(9, 1);
        x.type(77, 1);
        x.type(5, 2);
        x.type(6, 2);
        for (int i = 0; i < 5; i++) {
            x.want(i, 0);
        }
        for (int i = 1; i <= 7; i++) {
            x.offer(i);
        }
        int[] due = {3, 5, 2, 3, 1, 5, 7, 1, 4};
        for (int what = 0; what < due.length; what++) {
            Check.due("count(" + what + ")", x.count(what), due[what]);
        }
        for (int what : new int[] {-1, 9, MIN, MAX}) {
            Check.due("count(" + what + ")", x.count(what), -1);
        }
    }
}
