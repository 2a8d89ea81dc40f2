/** The edges of learning and of promises 26 to 28: learn, saves, count. */
final class LearningEdgesTest {
    private static final int MIN = Integer.MIN_VALUE;
    private static final int MAX = Integer.MAX_VALUE;

    private static final Scene fresh = Scene.fresh();
    private static final Scene busy = Scene.busy();
    private static final Scene full = Scene.full();
    private static final Scene typedMuch = Scene.typedMuch();

    public static void main(String[] args) {
        nothingToLearn();
        learnWithinBounds();
        learnAllForty();
        ofAlikeOnesTheLowest();
        moreThanNothing();
        savesTheMost();
        savesOfTheFirstAndTheLast();
        savesOfOthers();
        savesByTheLeastRowAnywhere();
        savesAgainNothing();
        countsAtFirst();
        countsInBetween();
        countsOfAFullOne();
        countOfWhatWentOut();
        countOfOthers();
        Check.end();
    }

    private static void nothingToLearn() {
        for (int i : new int[] {-1, 0, 1, 39, 40, MIN, MAX}) {
            fresh.dueAndSame("26: of none, learn(" + i + ")", x -> x.learn(i), -1);
        }
        KeyPlan x = new KeyPlan();
        x.bind(0, 5, KeyPlan.FREE);
        Check.due("26: FREE is no command", x.learn(0), -1);
    }

    private static void learnWithinBounds() {
        KeyPlan x = busy.make();
        int[] saved = {4 * 20, 18, 5 * 23, 20};
        for (int command = 0; command < saved.length; command++) {
            Check.due("27: saves(" + command + ")", x.saves(command), saved[command]);
        }
        Check.due("27: saves(38)", x.saves(38), 30 - 6);
        int[] greatestFirst = {2, 0, 38, 3, 1};
        for (int i = 0; i < greatestFirst.length; i++) {
            Check.due("26: learn(" + i + ")", x.learn(i), greatestFirst[i]);
        }
        for (int i : Check.outside(0, 4)) {
            busy.dueAndSame("26: of five, learn(" + i + ")", y -> y.learn(i), -1);
        }
    }

    private static void learnAllForty() {
        KeyPlan x = new KeyPlan();
        for (int command = 0; command < 40; command++) {
            x.bind(0, 240 - command, command);
            x.uses(command, 961 + command);
        }
        for (int i = 0; i < 40; i++) {
            Check.due("26: learn(" + i + ")", x.learn(i), 39 - i);
        }
        for (int i : Check.outside(0, 39)) {
            Check.due("26: of forty, learn(" + i + ")", x.learn(i), -1);
        }
    }

    private static void ofAlikeOnesTheLowest() {
        KeyPlan x = new KeyPlan();
        for (int command = 39; command >= 0; command--) {
            x.bind(0, 40 - command, command);
        }
        for (int i = 0; i < 40; i++) {
            Check.due("26: alike, learn(" + i + ")", x.learn(i), i);
        }
        x.stretch(1, 9);
        Check.due("26: one that saves one more", x.learn(0), 39);
        Check.due("26: then the lowest", x.learn(1), 0);
        Check.due("26: at last", x.learn(39), 38);
    }

    private static void moreThanNothing() {
        KeyPlan x = new KeyPlan();
        x.bind(0, Check.row(1, 2, 3), 39);
        Check.due("26: 30 less 30", x.learn(0), -1);
        Check.due("27: 30 less 30", x.saves(39), 0);
        x.stretch(2, 9);
        Check.due("26: 30 less 29", x.learn(0), 39);
        Check.due("27: 30 less 29", x.saves(39), 1);
        x.uses(39, 1000);
        Check.due("27: a thousand times one", x.saves(39), 1000);
        x.stretch(2, 11);
        Check.due("26: 30 less 31", x.learn(0), -1);
        Check.due("27: 30 less 31 is not among them", x.saves(39), 0);
        x.stretch(1, 100);
        x.stretch(2, 100);
        x.stretch(3, 100);
        Check.due("26: 30 less 300", x.learn(0), -1);
        Check.due("27: 30 less 300", x.saves(39), 0);
    }

    private static void savesTheMost() {
        KeyPlan x = new KeyPlan();
        x.uses(0, 1000);
        x.stretch(240, 0);
        x.bind(0, 240, 0);
        Check.due("27: the most", x.saves(0), 30_000);
        x.bind(0, 240, KeyPlan.NONE);
        x.bind(0, Check.row(240, 240, 240), 0);
        Check.due("27: the same by three strokes", x.saves(0), 30_000);
        x.uses(0, 0);
        Check.due("27: no uses", x.saves(0), 0);
        Check.due("26: no uses", x.learn(0), -1);
        x.uses(0, 1);
        Check.due("27: one use", x.saves(0), 30);
    }

    private static void savesOfTheFirstAndTheLast() {
        for (int command : Check.ends(0, 39)) {
            KeyPlan x = new KeyPlan();
            x.bind(0, 1, command);
            for (int other = -1; other <= 41; other++) {
                Check.due("27: saves(" + other + ")", x.saves(other), other == command ? 20 : 0);
            }
            Check.due("26: learn(0)", x.learn(0), command);
            Check.due("26: learn(1)", x.learn(1), -1);
        }
    }

    private static void savesOfOthers() {
        for (int command : Check.outside(0, 39)) {
            fresh.dueAndSame("27: saves(" + command + ") of an empty map", x -> x.saves(command), 0);
            busy.dueAndSame("27: saves(" + command + ")", x -> x.saves(command), 0);
            full.dueAndSame("27: saves(" + command + ") of a full map", x -> x.saves(command), 0);
        }
        busy.dueAndSame("27: saves(39), which the map has no more", x -> x.saves(39), 0);
        fresh.dueAndSame("27: saves(0), which the map has not", x -> x.saves(0), 0);
    }

    private static void savesByTheLeastRowAnywhere() {
        KeyPlan x = new KeyPlan();
        for (int i = 0; i < 11; i++) {
            x.context(0);
        }
        x.stretch(240, 1);
        x.stretch(1, 2);
        x.bind(0, 5, 39);
        Check.due("27: in 0", x.saves(39), 20);
        x.bind(11, Check.row(240, 240, 240), 39);
        Check.due("27: in the last context", x.saves(39), 27);
        x.bind(5, Check.row(1, 240), 39);
        Check.due("27: no less", x.saves(39), 27);
        x.bind(6, 1, 39);
        Check.due("27: the least of four", x.saves(39), 28);
        Check.due("26: it is told once", x.learn(1), -1);
    }

    private static void savesAgainNothing() {
        KeyPlan x = busy.make();
        x.bind(2, 240, 39);
        Check.due("27: by two strokes in context 0", x.saves(2), 5 * (30 - 22));
        x.bind(0, Check.row(5, 6), KeyPlan.NONE);
        Check.due("27: the map has it no more", x.saves(2), 0);
        Check.due("27: but 39", x.saves(39), 9 * 23);
        x.back();
        Check.due("27: it has it again", x.saves(2), 5 * (30 - 22));
    }

    private static void dueCounts(Scene scene, String when, int... counts) {
        for (int what = 0; what < counts.length; what++) {
            int w = what;
            scene.dueAndSame("28: " + when + ", count(" + w + ")", x -> x.count(w), counts[w]);
        }
    }

    private static void countsAtFirst() {
        dueCounts(fresh, "at first", 1, 0, 0, 0, 0, 0, 0, 0, 0);
    }

    private static void countsInBetween() {
        dueCounts(busy, "in between", 4, 9, 2, 1, 1, 3, 3, 3, 3);
    }

    private static void countsOfAFullOne() {
        dueCounts(full, "full", 12, 120, 2, 0, 0, 6, 8, 11, 56);
    }

    private static void countOfWhatWentOut() {
        dueCounts(typedMuch, "typed much", 1, 2, 1, 401, 0, 0, 0, 0, 2);
    }

    private static void countOfOthers() {
        for (int what : Check.outside(0, 8)) {
            fresh.dueAndSame("28: at first, count(" + what + ")", x -> x.count(what), -1);
            busy.dueAndSame("28: count(" + what + ")", x -> x.count(what), -1);
            full.dueAndSame("28: full, count(" + what + ")", x -> x.count(what), -1);
        }
    }
}
