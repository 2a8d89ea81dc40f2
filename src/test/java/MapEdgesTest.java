/** The edges of Terms 1 and of promises 1 to 7: contexts, rows, commands, the map of 120, meanings, fights. */
final class MapEdgesTest {
    private static final int FREE = KeyPlan.FREE;
    private static final int[] GOOD_ROWS = {1, 2, 239, 240, Check.row(1, 1), Check.row(240, 1), Check.row(1, 240),
        Check.row(240, 240), Check.row(1, 1, 1), Check.row(240, 1, 1), Check.row(1, 240, 1), Check.row(1, 1, 240),
        Check.row(240, 240, 240)};
    private static final int[] BAD_ROWS = {0, -1, -5, 241, 255, Check.row(0, 1), Check.row(0, 0, 1),
        Check.row(0, 5, 6), Check.row(241, 1), Check.row(255, 5), Check.row(1, 241), Check.row(5, 255),
        Check.row(241, 1, 1), Check.row(1, 241, 1), Check.row(1, 1, 241), Check.row(5, 6, 255), Check.row(1, 0, 1),
        Check.row(5, 0, 240), Check.row(240, 240, 240) + 1, Check.row(255, 255, 255), 1 << 24, 5 + (1 << 24),
        Check.row(5, 6) + (1 << 24), Check.row(5, 6, 7) + (1 << 25), 5 - (1 << 24), 5 + Integer.MIN_VALUE,
        Integer.MIN_VALUE, Integer.MAX_VALUE};

    private static final Scene fresh = Scene.fresh();
    private static final Scene busy = Scene.busy();
    private static final Scene full = Scene.full();

    public static void main(String[] args) {
        aNewObjectHasContext0Alone();
        aNewObjectHasAnEmptyMap();
        aContextStandsInEachThatThereIs();
        noContextInOneThatThereIsNot();
        theTwelfthContextAndNoThirteenth();
        bindInTheContextsThatThereAre();
        bindTakesEveryGoodRow();
        bindRefusesEveryBadRow();
        bindTakesCommandsFreeAndNothing();
        bindAnswersWhatTheMapHad();
        bindNothingWhereNothingIs();
        theMapTakes120();
        theMapRefusesThe121st();
        aFullMapTakesWhatIsNotMore();
        hasOfEdges();
        meansOfEdges();
        meansNothingAtLast();
        meansOverElevenSteps();
        freeMeansNothing();
        noFights();
        fightAsksWithinBounds();
        aRowFightsOnlyWhatItBegins();
        fightsInOrderOfNumbers();
        theMostFights();
        fightsOfAContextThatThereIsNot();
        Check.end();
    }

    private static void aNewObjectHasContext0Alone() {
        KeyPlan x = new KeyPlan();
        Check.due("1: contexts", x.count(0), 1);
        Check.due("1: fights(0)", x.fights(0), 0);
        Check.due("1: fights(1)", x.fights(1), -1);
        Check.due("1: at hand", x.count(7), 0);
        fresh.dueAndSame("1: go(1)", y -> Check.number(y.go(1)), 0);
        fresh.dueAndSame("1: go(0)", y -> Check.number(y.go(0)), 1);
        fresh.dueAndSame("1: want(1, 1)", y -> y.want(1, 1), -1);
        fresh.dueAndSame("1: bind(1, 5, 1)", y -> y.bind(1, 5, 1), -2);
    }

    private static void aNewObjectHasAnEmptyMap() {
        KeyPlan x = new KeyPlan();
        Check.due("1: the map has", x.count(1), 0);
        for (int row : GOOD_ROWS) {
            Check.due("1: has(0, " + row + ")", x.has(0, row), -1);
            Check.due("1: means(0, " + row + ")", x.means(0, row), -1);
        }
        Check.due("1: learn(0)", x.learn(0), -1);
        Check.due("1: changes", x.count(8), 0);
        Check.due("1: every stroke is lost", x.type(240, 0), 0);
        Check.due("1: lost", x.count(4), 1);
    }

    private static void aContextStandsInEachThatThereIs() {
        for (int outside = 0; outside <= 10; outside++) {
            KeyPlan x = new KeyPlan();
            for (int i = 1; i <= outside; i++) {
                x.context(0);
            }
            Check.due("2: context(" + outside + ")", x.context(outside), outside + 1);
            x.bind(outside, 240, 7);
            Check.due("2: it stands in " + outside, x.means(outside + 1, 240), 7);
            Check.due("2: contexts", x.count(0), outside + 2);
        }
    }

    private static void noContextInOneThatThereIsNot() {
        for (int outside : Check.outside(0, 0)) {
            fresh.dueAndSame("2: of one, context(" + outside + ")", x -> x.context(outside), -1);
        }
        for (int outside : Check.outside(0, 3)) {
            busy.dueAndSame("2: of four, context(" + outside + ")", x -> x.context(outside), -1);
        }
        Check.due("2: of four, context(3)", busy.make().context(3), 4);
    }

    private static void theTwelfthContextAndNoThirteenth() {
        KeyPlan x = new KeyPlan();
        for (int i = 1; i <= 10; i++) {
            x.context(0);
        }
        Check.due("2: the twelfth", x.context(10), 11);
        Check.due("2: contexts", x.count(0), 12);
        for (int outside = -1; outside <= 12; outside++) {
            int o = outside;
            full.dueAndSame("2: the thirteenth, context(" + o + ")", y -> y.context(o), -1);
        }
    }

    private static void bindInTheContextsThatThereAre() {
        KeyPlan x = full.make();
        x.bind(0, 5, -1);
        Check.due("3: bind(11, 240, 9)", x.bind(11, 240, 9), -1);
        Check.due("3: has(11, 240)", x.has(11, 240), 9);
        Check.due("3: not in 10", x.has(10, 240), -1);
        Check.due("3: bind(11, 240, -1)", x.bind(11, 240, -1), 9);
        Check.due("3: bind(0, 240, 8)", x.bind(0, 240, 8), -1);
        Check.due("3: has(0, 240)", x.has(0, 240), 8);
        for (int context : Check.outside(0, 3)) {
            busy.dueAndSame("3: of four, bind(" + context + ", 5, 7)", y -> y.bind(context, 5, 7), -2);
            busy.dueAndSame("3: of four, bind(" + context + ", 5, -1)", y -> y.bind(context, 5, -1), -2);
        }
        for (int context : Check.outside(0, 11)) {
            full.dueAndSame("3: of twelve, bind(" + context + ", 5, 7)", y -> y.bind(context, 5, 7), -2);
        }
    }

    private static void bindTakesEveryGoodRow() {
        for (int row : GOOD_ROWS) {
            KeyPlan x = new KeyPlan();
            x.context(0);
            Check.due("3: bind(1, " + row + ", 39)", x.bind(1, row, 39), -1);
            Check.due("3: count(1) with " + row, x.count(1), 1);
            Check.due("3: change's context", x.change(0, 0), 1);
            Check.due("3: change's row", x.change(0, 1), row);
            for (int other : GOOD_ROWS) {
                Check.due("3: with " + row + ", has(1, " + other + ")", x.has(1, other), other == row ? 39 : -1);
            }
            Check.due("3: bind(1, " + row + ", -1)", x.bind(1, row, -1), 39);
            Check.due("3: count(1) without " + row, x.count(1), 0);
        }
    }

    private static void bindRefusesEveryBadRow() {
        for (int row : BAD_ROWS) {
            busy.dueAndSame("3: bind(0, " + row + ", 39)", x -> x.bind(0, row, 39), -2);
            busy.dueAndSame("3: bind(0, " + row + ", -1)", x -> x.bind(0, row, -1), -2);
        }
    }

    private static void bindTakesCommandsFreeAndNothing() {
        for (int command : new int[] {0, 1, 38, 39}) {
            KeyPlan x = busy.make();
            Check.due("3: bind(0, 5, " + command + ")", x.bind(0, 5, command), 1);
            Check.due("3: has " + command, x.has(0, 5), command);
            Check.due("3: means " + command, x.means(3, 5), command);
        }
        KeyPlan x = busy.make();
        Check.due("3: bind(0, 5, FREE)", x.bind(0, 5, 40), 1);
        Check.due("3: has FREE", x.has(0, 5), 40);
        Check.due("3: bind(0, 5, NONE)", x.bind(0, 5, -1), 40);
        Check.due("3: has NONE", x.has(0, 5), -1);
        for (int command : Check.outside(-1, 40)) {
            busy.dueAndSame("3: bind(0, 5, " + command + ")", y -> y.bind(0, 5, command), -2);
            busy.dueAndSame("3: bind(0, 6, " + command + ")", y -> y.bind(0, 6, command), -2);
        }
    }

    private static void bindAnswersWhatTheMapHad() {
        int[] chain = {0, 0, 39, 40, 40, 0, -1, 40, 39, -1, -1};
        KeyPlan x = new KeyPlan();
        int had = -1;
        for (int command : chain) {
            Check.due("3: " + had + " becomes " + command, x.bind(0, 240, command), had);
            Check.due("3: count(1) with " + command, x.count(1), command == -1 ? 0 : 1);
            had = command;
        }
        x.context(0);
        x.bind(0, 5, 7);
        Check.due("3: the map itself, not the meaning", x.bind(1, 5, 8), -1);
    }

    private static void bindNothingWhereNothingIs() {
        fresh.dueAndSame("3: bind(0, 5, NONE) in an empty map", x -> x.bind(0, 5, -1), -1);
        busy.dueAndSame("3: bind(3, 240, NONE)", x -> x.bind(3, 240, -1), -1);
        full.dueAndSame("3: bind(11, 240, NONE) in a full map", x -> x.bind(11, 240, -1), -1);
    }

    private static void theMapTakes120() {
        for (int command : new int[] {0, 39, FREE}) {
            KeyPlan x = new KeyPlan();
            x.context(0);
            for (int i = 1; i <= 119; i++) {
                x.bind(i % 2, i, i % 41);
            }
            Check.due("3: before the 120th", x.count(1), 119);
            Check.due("3: the 120th, " + command, x.bind(1, 240, command), -1);
            Check.due("3: with the 120th", x.count(1), 120);
            Check.due("3: has the 120th", x.has(1, 240), command);
            Check.due("3: has the first", x.has(1, 1), 1);
            Check.due("3: has the 119th", x.has(1, 119), 119 % 41);
        }
    }

    private static void theMapRefusesThe121st() {
        for (int command : new int[] {0, 39, FREE}) {
            full.dueAndSame("3: the 121st, bind(0, 1, " + command + ")", x -> x.bind(0, 1, command), -2);
            full.dueAndSame("3: the 121st, bind(11, 5, " + command + ")", x -> x.bind(11, 5, command), -2);
            full.dueAndSame("3: the 121st, the last row", x -> x.bind(11, Check.row(240, 240, 240), command), -2);
        }
        full.dueAndSame("3: the 121st and a wrong row", x -> x.bind(0, 0, 1), -2);
    }

    private static void aFullMapTakesWhatIsNotMore() {
        KeyPlan x = full.make();
        Check.due("3: full", x.count(1), 120);
        Check.due("3: another command", x.bind(0, 5, 39), 1);
        Check.due("3: FREE for a command", x.bind(0, 5, 40), 39);
        Check.due("3: a command for FREE", x.bind(0, 5, 6), 40);
        Check.due("3: full still", x.count(1), 120);
        Check.due("3: nothing for a command", x.bind(0, 5, -1), 6);
        Check.due("3: one less", x.count(1), 119);
        Check.due("3: one more", x.bind(11, 1, 0), -1);
        Check.due("3: full again", x.count(1), 120);
        Check.due("3: and refused again", x.bind(0, 5, 6), -2);
        Check.due("3: it has it not", x.has(0, 5), -1);
    }

    private static void hasOfEdges() {
        KeyPlan x = busy.make();
        Check.due("4: FREE", x.has(1, 5), 40);
        Check.due("4: command 0", x.has(1, 6), 0);
        x.bind(0, 1, 39);
        Check.due("4: command 39", x.has(0, 1), 39);
        Check.due("4: nothing here, something outside", x.has(3, 5), -1);
        for (int row : BAD_ROWS) {
            busy.dueAndSame("4: has(0, " + row + ")", y -> y.has(0, row), -1);
        }
        for (int context : Check.outside(0, 3)) {
            busy.dueAndSame("4: has(" + context + ", 5)", y -> y.has(context, 5), -1);
        }
        for (int context : Check.outside(0, 11)) {
            full.dueAndSame("4: of twelve, has(" + context + ", 5)", y -> y.has(context, 5), -1);
        }
    }

    private static void meansOfEdges() {
        KeyPlan x = busy.make();
        Check.due("5: command 0", x.means(1, 6), 0);
        x.bind(0, 1, 39);
        Check.due("5: command 39", x.means(3, 1), 39);
        for (int row : BAD_ROWS) {
            busy.dueAndSame("5: means(2, " + row + ")", y -> y.means(2, row), -1);
        }
        for (int context : Check.outside(0, 3)) {
            busy.dueAndSame("5: means(" + context + ", 7)", y -> y.means(context, 7), -1);
        }
        for (int context : Check.outside(0, 11)) {
            full.dueAndSame("5: of twelve, means(" + context + ", 7)", y -> y.means(context, 7), -1);
        }
    }

    private static void meansNothingAtLast() {
        KeyPlan x = busy.make();
        Check.due("5: 0 has nothing outside", x.means(0, 6), -1);
        Check.due("5: nowhere", x.means(2, 100), -1);
        Check.due("5: inside alone", x.means(0, 240), -1);
        Check.due("5: beside alone", x.means(3, 6), -1);
        Check.due("5: a beginning alone", x.means(0, Check.row(240, 240)), -1);
        Check.due("5: a longer one alone", x.means(0, Check.row(5, 5)), -1);
    }

    private static void meansOverElevenSteps() {
        KeyPlan x = new KeyPlan();
        for (int i = 0; i < 11; i++) {
            x.context(i);
        }
        x.bind(0, 240, 39);
        Check.due("5: eleven steps out", x.means(11, 240), 39);
        x.bind(1, 240, FREE);
        Check.due("5: FREE ten steps out", x.means(11, 240), -1);
        Check.due("5: outside of FREE", x.means(0, 240), 39);
        x.bind(11, 240, 0);
        Check.due("5: at once", x.means(11, 240), 0);
        Check.due("5: one step further out", x.means(10, 240), -1);
    }

    private static void freeMeansNothing() {
        KeyPlan x = new KeyPlan();
        x.context(0);
        x.bind(0, 5, FREE);
        Check.due("5: FREE in 0", x.means(0, 5), -1);
        Check.due("5: FREE outside", x.means(1, 5), -1);
        Check.due("4: has FREE", x.has(0, 5), FREE);
        x.bind(1, 5, 0);
        Check.due("5: a command inside", x.means(1, 5), 0);
        Check.due("5: FREE is no command to type", x.type(5, 0), 0);
        Check.due("5: it is lost", x.count(4), 1);
    }

    private static void noFights() {
        fresh.dueAndSame("7: of an empty map", x -> x.fights(0), 0);
        fresh.dueAndSame("6: of an empty map", x -> x.fight(0, 0, 0), -1);
        KeyPlan x = new KeyPlan();
        x.bind(0, 5, 1);
        Check.due("7: one row fights not itself", x.fights(0), 0);
        Check.due("6: none", x.fight(0, 0, 0), -1);
        x.bind(0, Check.row(5, 6), FREE);
        Check.due("7: nor with FREE", x.fights(0), 0);
        x.bind(0, Check.row(5, 6), 1);
        Check.due("7: one, though both are one command", x.fights(0), 1);
        x.bind(0, 5, FREE);
        Check.due("7: FREE begins none", x.fights(0), 0);
    }

    private static void fightAsksWithinBounds() {
        int two = Check.row(5, 6);
        int three = Check.row(5, 6, 7);
        Check.due("6: asked before anything else", busy.make().fight(0, 2, 0), two);
        KeyPlan x = busy.make();
        Check.due("7: fights(0)", x.fights(0), 3);
        dueFight(x, 0, 0, 5, two);
        dueFight(x, 0, 1, 5, three);
        dueFight(x, 0, 2, two, three);
        dueFight(x, 1, 0, two, three);
        Check.due("7: fights(1), 5 being FREE there", x.fights(1), 1);
        for (int i : Check.outside(0, 2)) {
            busy.dueAndSame("6: of three, fight(0, " + i + ", 0)", y -> y.fight(0, i, 0), -1);
            busy.dueAndSame("6: of three, fight(0, " + i + ", 1)", y -> y.fight(0, i, 1), -1);
        }
        busy.dueAndSame("6: of one, fight(1, 1, 0)", y -> y.fight(1, 1, 0), -1);
        for (int what : Check.outside(0, 1)) {
            busy.dueAndSame("6: fight(0, 0, " + what + ")", y -> y.fight(0, 0, what), -1);
            busy.dueAndSame("6: fight(0, 2, " + what + ")", y -> y.fight(0, 2, what), -1);
        }
    }

    private static void dueFight(KeyPlan x, int context, int i, int first, int second) {
        Check.due("6: fight(" + context + ", " + i + ", 0)", x.fight(context, i, 0), first);
        Check.due("6: fight(" + context + ", " + i + ", 1)", x.fight(context, i, 1), second);
    }

    private static void aRowFightsOnlyWhatItBegins() {
        KeyPlan x = new KeyPlan();
        x.bind(0, 1, 1);
        x.bind(0, 240, 2);
        x.bind(0, Check.row(240, 1), 3);
        x.bind(0, Check.row(239, 240, 1), 4);
        x.bind(0, Check.row(239, 1, 240), 5);
        x.bind(0, Check.row(2, 240, 1), 6);
        Check.due("7: only 240 begins another", x.fights(0), 1);
        dueFight(x, 0, 0, 240, Check.row(240, 1));
        x.bind(0, Check.row(239, 240), 7);
        Check.due("7: the first two of three", x.fights(0), 2);
        dueFight(x, 0, 1, Check.row(239, 240), Check.row(239, 240, 1));
        x.bind(0, 239, 8);
        Check.due("7: the first one of two and three", x.fights(0), 5);
    }

    private static void fightsInOrderOfNumbers() {
        KeyPlan x = new KeyPlan();
        x.bind(0, Check.row(1, 1), 1);
        x.bind(0, Check.row(1, 1, 1), 2);
        x.bind(0, Check.row(240, 240), 3);
        x.bind(0, 240, 4);
        x.bind(0, Check.row(240, 1, 1), 5);
        x.bind(0, Check.row(240, 240, 240), 6);
        x.bind(0, 1, 7);
        Check.due("7: fights", x.fights(0), 7);
        dueFight(x, 0, 0, 1, Check.row(1, 1));
        dueFight(x, 0, 1, 1, Check.row(1, 1, 1));
        dueFight(x, 0, 2, 240, Check.row(240, 240));
        dueFight(x, 0, 3, 240, Check.row(240, 1, 1));
        dueFight(x, 0, 4, 240, Check.row(240, 240, 240));
        dueFight(x, 0, 5, Check.row(1, 1), Check.row(1, 1, 1));
        dueFight(x, 0, 6, Check.row(240, 240), Check.row(240, 240, 240));
        dueFight(x, 0, 7, -1, -1);
    }

    /** With 120 rows there are most where one of one stroke and one of two begin all others. */
    private static void theMostFights() {
        KeyPlan x = new KeyPlan();
        for (int i = 0; i < 11; i++) {
            x.context(i);
        }
        for (int i = 0; i < 118; i++) {
            x.bind(i % 12, Check.row(240, 240, 240 - i), i % 40);
        }
        x.bind(11, 240, 0);
        x.bind(0, Check.row(240, 240), 39);
        Check.due("7: the most", x.fights(11), 237);
        dueFight(x, 11, 0, 240, Check.row(240, 240));
        dueFight(x, 11, 1, 240, Check.row(240, 240, 123));
        dueFight(x, 11, 118, 240, Check.row(240, 240, 240));
        dueFight(x, 11, 119, Check.row(240, 240), Check.row(240, 240, 123));
        dueFight(x, 11, 236, Check.row(240, 240), Check.row(240, 240, 240));
        dueFight(x, 11, 237, -1, -1);
        Check.due("7: one step out, without 240", x.fights(10), 118 - 9);
        Check.due("7: in 0, with its own alone", x.fights(0), 10);
    }

    private static void fightsOfAContextThatThereIsNot() {
        for (int context : Check.outside(0, 0)) {
            fresh.dueAndSame("7: of one, fights(" + context + ")", x -> x.fights(context), -1);
        }
        for (int context : Check.outside(0, 3)) {
            busy.dueAndSame("7: of four, fights(" + context + ")", x -> x.fights(context), -1);
            busy.dueAndSame("6: of four, fight(" + context + ", 0, 0)", x -> x.fight(context, 0, 0), -1);
        }
        Check.due("7: of four, fights(3)", busy.make().fights(3), 3);
        for (int context : Check.outside(0, 11)) {
            full.dueAndSame("7: of twelve, fights(" + context + ")", x -> x.fights(context), -1);
        }
        Check.due("7: of twelve, fights(11)", full.make().fights(11), 1);
    }
}
