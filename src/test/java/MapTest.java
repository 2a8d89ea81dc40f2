/** Promises 1 to 7: a new object, contexts, the map, what rows mean, fights. */
final class MapTest {
    private static final int MIN = Integer.MIN_VALUE;
    private static final int MAX = Integer.MAX_VALUE;

    public static void main(String[] args) {
        newObject();
        contexts();
        rowsThatStand();
        rowsThatDoNot();
        bindAnswersWhatItHad();
        mapIsFullAt120();
        hasLooksAtOneContext();
        meansLooksOutwards();
        fightsInOrder();
        fightsOfWhatIsMeant();
        fightsThatAreNone();
        manyFights();
        Check.end();
    }

    private static void newObject() {
        KeyPlan x = new KeyPlan();
        int[] first = {1, 0, 0, 0, 0, 0, 0, 0, 0};
        for (int what = 0; what < first.length; what++) {
            Check.due("new: count " + what, x.count(what), first[what]);
        }
        Check.due("new: means", x.means(0, 5), -1);
        Check.due("new: has", x.has(0, 5), -1);
        Check.due("new: fights", x.fights(0), 0);
        Check.due("new: fights(1)", x.fights(1), -1);
        Check.due("new: learn", x.learn(0), -1);
        Check.due("new: back", x.back(), 0);
        Check.due("new: cheapest", x.cheapest(), 0);
        KeyPlan other = new KeyPlan();
        x.bind(0, 5, 1);
        x.context(0);
        Check.due("objects are apart: map", other.count(1), 0);
        Check.due("objects are apart: contexts", other.count(0), 1);
    }

    private static void contexts() {
        KeyPlan x = new KeyPlan();
        for (int wrong : new int[] {-1, 1, 12, MIN, MAX}) {
            Check.due("context(" + wrong + ")", x.context(wrong), -1);
        }
        Check.due("count(0) behind refused ones", x.count(0), 1);
        for (int i = 1; i < 12; i++) {
            Check.due("context " + i, x.context(i - 1), i);
        }
        Check.due("a 13th", x.context(0), -1);
        Check.due("count(0)", x.count(0), 12);
        x.bind(0, 7, 3);
        Check.due("means eleven steps out", x.means(11, 7), 3);
        Check.due("means(12)", x.means(12, 7), -1);
    }

    private static void rowsThatStand() {
        KeyPlan x = new KeyPlan();
        int[] rows = {1, 240, Check.row(1, 1), Check.row(240, 240), Check.row(1, 1, 1), Check.row(240, 240, 240),
            Check.row(1, 240), Check.row(240, 1, 240)};
        for (int i = 0; i < rows.length; i++) {
            Check.due("bind row " + rows[i], x.bind(0, rows[i], i), -1);
            Check.due("has row " + rows[i], x.has(0, rows[i]), i);
            Check.due("means row " + rows[i], x.means(0, rows[i]), i);
        }
        Check.due("count(1)", x.count(1), rows.length);
    }

    private static void rowsThatDoNot() {
        KeyPlan x = new KeyPlan();
        int[] rows = {0, -1, MIN, MAX, 241, 255, 256, Check.row(5, 241), Check.row(5, 255), Check.row(5, 6, 241),
            Check.row(5, 6, 255), Check.row(5, 0, 6), Check.row(0, 6), Check.row(0, 6, 7), Check.row(241, 6),
            5 + (1 << 24), 5 - (1 << 24), Check.row(5, 6, 7) + (1 << 24), 5 + (1 << 31)};
        for (int row : rows) {
            Check.due("bind(0, " + row + ", 1)", x.bind(0, row, 1), -2);
            Check.due("bind(0, " + row + ", -1)", x.bind(0, row, -1), -2);
            Check.due("has(0, " + row + ")", x.has(0, row), -1);
            Check.due("means(0, " + row + ")", x.means(0, row), -1);
        }
        for (int command : new int[] {-2, 41, MIN, MAX}) {
            Check.due("bind(0, 5, " + command + ")", x.bind(0, 5, command), -2);
        }
        for (int context : new int[] {-1, 1, 12, MIN, MAX}) {
            Check.due("bind(" + context + ", 5, 1)", x.bind(context, 5, 1), -2);
            Check.due("has(" + context + ", 5)", x.has(context, 5), -1);
            Check.due("means(" + context + ", 5)", x.means(context, 5), -1);
        }
        Check.due("count(1)", x.count(1), 0);
    }

    private static void bindAnswersWhatItHad() {
        KeyPlan x = new KeyPlan();
        Check.due("nothing to nothing", x.bind(0, 5, -1), -1);
        Check.due("nothing to 0", x.bind(0, 5, 0), -1);
        Check.due("0 to 39", x.bind(0, 5, 39), 0);
        Check.due("39 to FREE", x.bind(0, 5, KeyPlan.FREE), 39);
        Check.due("count(1) with FREE", x.count(1), 1);
        Check.due("FREE to nothing", x.bind(0, 5, KeyPlan.NONE), 40);
        Check.due("count(1)", x.count(1), 0);
        Check.due("has nothing", x.has(0, 5), -1);
        x.bind(0, 5, 1);
        x.bind(0, 6, 2);
        x.bind(0, 7, 3);
        Check.due("the middle one goes", x.bind(0, 6, -1), 2);
        Check.due("the first stays", x.has(0, 5), 1);
        Check.due("the middle is gone", x.has(0, 6), -1);
        Check.due("the last stays", x.has(0, 7), 3);
    }

    private static void mapIsFullAt120() {
        KeyPlan x = new KeyPlan();
        x.context(0);
        for (int i = 0; i < 120; i++) {
            Check.due("bind " + i, x.bind(i % 2, 240 - i, i % 41), -1);
        }
        Check.due("count(1)", x.count(1), 120);
        Check.due("one more", x.bind(0, 1, 3), -2);
        Check.due("one more FREE", x.bind(1, 1, 40), -2);
        Check.due("nothing for nothing", x.bind(0, 1, -1), -1);
        Check.due("another command in its place", x.bind(0, 240, 9), 0);
        Check.due("has it", x.has(0, 240), 9);
        Check.due("one less", x.bind(1, 239, -1), 1);
        Check.due("one more again", x.bind(0, 1, 3), -1);
        Check.due("count(1) at last", x.count(1), 120);
        Check.due("has the last", x.has(1, 121), 119 % 41);
    }

    private static void hasLooksAtOneContext() {
        KeyPlan x = new KeyPlan();
        x.context(0);
        x.bind(0, 5, 7);
        Check.due("not the one outside", x.has(1, 5), -1);
        x.bind(1, 5, 40);
        Check.due("FREE", x.has(1, 5), 40);
        Check.due("the outer one", x.has(0, 5), 7);
    }

    private static void meansLooksOutwards() {
        KeyPlan x = new KeyPlan();
        x.context(0);
        x.context(1);
        x.context(0);
        x.bind(1, 5, 7);
        Check.due("not from inside", x.means(0, 5), -1);
        Check.due("not from beside", x.means(3, 5), -1);
        Check.due("its own", x.means(1, 5), 7);
        Check.due("from outside", x.means(2, 5), 7);
        x.bind(0, 5, 8);
        Check.due("the nearest", x.means(2, 5), 7);
        x.bind(2, 5, 40);
        Check.due("FREE hides all outside", x.means(2, 5), -1);
        Check.due("FREE hides nothing beside", x.means(3, 5), 8);
        x.bind(2, 5, -1);
        x.bind(1, 5, 40);
        Check.due("FREE outside", x.means(2, 5), -1);
        x.bind(2, 5, 9);
        Check.due("a command inside FREE", x.means(2, 5), 9);
        Check.due("another row", x.means(2, Check.row(5, 5)), -1);
    }

    private static void dueFight(KeyPlan x, int context, int i, int first, int second) {
        Check.due("fight(" + context + ", " + i + ", 0)", x.fight(context, i, 0), first);
        Check.due("fight(" + context + ", " + i + ", 1)", x.fight(context, i, 1), second);
    }

    private static void fightsInOrder() {
        KeyPlan x = new KeyPlan();
        int a = Check.row(9, 2);
        int b = Check.row(9, 2, 1);
        int c = Check.row(9, 1, 7);
        int d = Check.row(3, 200);
        x.bind(0, b, 1);
        x.bind(0, a, 2);
        x.bind(0, 9, 3);
        x.bind(0, c, 4);
        x.bind(0, d, 5);
        x.bind(0, 3, 6);
        x.bind(0, 4, 7);
        Check.due("fights", x.fights(0), 5);
        dueFight(x, 0, 0, 3, d);
        dueFight(x, 0, 1, 9, a);
        dueFight(x, 0, 2, 9, b);
        dueFight(x, 0, 3, 9, c);
        dueFight(x, 0, 4, a, b);
        dueFight(x, 0, 5, -1, -1);
    }

    private static void fightsOfWhatIsMeant() {
        KeyPlan x = new KeyPlan();
        int longer = Check.row(5, 6);
        x.context(0);
        x.context(1);
        x.context(0);
        x.bind(0, 5, 1);
        x.bind(1, longer, 2);
        Check.due("outside alone none", x.fights(0), 0);
        Check.due("inside one", x.fights(1), 1);
        Check.due("further inside one", x.fights(2), 1);
        Check.due("beside none", x.fights(3), 0);
        x.bind(2, 5, 3);
        Check.due("a row that two have fights once", x.fights(2), 1);
        dueFight(x, 2, 0, 5, longer);
        x.bind(2, 5, 40);
        Check.due("FREE fights not", x.fights(2), 0);
        Check.due("outside it does", x.fights(1), 1);
        x.bind(2, 5, -1);
        x.bind(2, longer, 40);
        Check.due("FREE second fights not", x.fights(2), 0);
        x.bind(2, Check.row(5, 6, 7), 4);
        Check.due("over a hidden middle", x.fights(2), 1);
        dueFight(x, 2, 0, 5, Check.row(5, 6, 7));
    }

    private static void fightsThatAreNone() {
        KeyPlan x = new KeyPlan();
        x.bind(0, 5, 1);
        x.bind(0, Check.row(6, 5), 2);
        x.bind(0, Check.row(7, 6, 5), 2);
        Check.due("an end is no beginning", x.fights(0), 0);
        x.bind(0, Check.row(5, 5), 3);
        for (int context : new int[] {-1, 1, MIN, MAX}) {
            Check.due("fights(" + context + ")", x.fights(context), -1);
            Check.due("fight(" + context + ", 0, 0)", x.fight(context, 0, 0), -1);
        }
        for (int i : new int[] {-1, 1, MIN, MAX}) {
            Check.due("fight(0, " + i + ", 0)", x.fight(0, i, 0), -1);
        }
        for (int what : new int[] {-1, 2, MIN, MAX}) {
            Check.due("fight(0, 0, " + what + ")", x.fight(0, 0, what), -1);
        }
        dueFight(x, 0, 0, 5, Check.row(5, 5));
    }

    private static void manyFights() {
        KeyPlan x = new KeyPlan();
        x.bind(0, 5, 0);
        x.bind(0, Check.row(5, 5), 0);
        for (int i = 1; i <= 118; i++) {
            x.bind(0, Check.row(5, 5, i), 1);
        }
        Check.due("fights", x.fights(0), 1 + 118 + 118);
        dueFight(x, 0, 0, 5, Check.row(5, 5));
        dueFight(x, 0, 118, 5, Check.row(5, 5, 118));
        dueFight(x, 0, 236, Check.row(5, 5), Check.row(5, 5, 118));
        dueFight(x, 0, 237, -1, -1);
    }
}
