/** Promises 13 to 22: stretch, uses, habits, what is wanted and offered, the cheapest assignment, apply. */
final class AssigningTest {
    private static final int MIN = Integer.MIN_VALUE;
    private static final int MAX = Integer.MAX_VALUE;

    public static void main(String[] args) {
        firstPrices();
        stretchBounds();
        usesBounds();
        habitBounds();
        habitsHaveAPrice();
        wantRefused();
        offerRefused();
        clearTakesAll();
        contextsThatMeet();
        contextsThatMeetFromAfar();
        brokenAskedAlone();
        alikeOnes();
        notTheGreedyOne();
        noAssignment();
        answersFollowChanges();
        applyPutsStrokesAlone();
        applyRefusedWhenFull();
        sixOverEight();
        Check.end();
    }

    private static void dueAssigned(KeyPlan x, int... strokes) {
        for (int i = 0; i < strokes.length; i++) {
            Check.due("assigned(" + i + ")", x.assigned(i), strokes[i]);
        }
        Check.due("assigned(" + strokes.length + ")", x.assigned(strokes.length), -1);
        Check.due("assigned(-1)", x.assigned(-1), -1);
    }

    private static void firstPrices() {
        KeyPlan x = new KeyPlan();
        x.want(0, 0);
        x.want(39, 0);
        x.offer(1);
        x.offer(240);
        Check.due("1 use, 10 each", x.cheapest(), 20);
        Check.due("no habit at first", x.broken(), 0);
        dueAssigned(x, 1, 240);
        Check.due("assigned(MIN)", x.assigned(MIN), -1);
        Check.due("assigned(MAX)", x.assigned(MAX), -1);
    }

    private static void stretchBounds() {
        KeyPlan x = new KeyPlan();
        x.want(0, 0);
        x.offer(240);
        x.uses(0, 3);
        for (int stroke : new int[] {0, -1, 241, MIN, MAX}) {
            Check.due("stretch(" + stroke + ", 5)", x.stretch(stroke, 5), false);
        }
        for (int price : new int[] {-1, 101, MIN, MAX}) {
            Check.due("stretch(240, " + price + ")", x.stretch(240, price), false);
        }
        Check.due("as at first", x.cheapest(), 30);
        Check.due("stretch(240, 100)", x.stretch(240, 100), true);
        Check.due("cheapest at 100", x.cheapest(), 300);
        Check.due("stretch(240, 0)", x.stretch(240, 0), true);
        Check.due("cheapest at 0", x.cheapest(), 0);
        Check.due("stretch(1, 1)", x.stretch(1, 1), true);
    }

    private static void usesBounds() {
        KeyPlan x = new KeyPlan();
        x.want(39, 0);
        x.offer(7);
        for (int command : new int[] {-1, 40, MIN, MAX}) {
            Check.due("uses(" + command + ", 5)", x.uses(command, 5), false);
        }
        for (int n : new int[] {-1, 1001, MIN, MAX}) {
            Check.due("uses(39, " + n + ")", x.uses(39, n), false);
        }
        Check.due("as at first", x.cheapest(), 10);
        Check.due("uses(39, 1000)", x.uses(39, 1000), true);
        Check.due("cheapest at 1000", x.cheapest(), 10_000);
        Check.due("uses(39, 0)", x.uses(39, 0), true);
        Check.due("cheapest at 0", x.cheapest(), 0);
    }

    private static void habitBounds() {
        KeyPlan x = new KeyPlan();
        x.want(3, 0);
        x.offer(7);
        for (int command : new int[] {-1, 40, MIN, MAX}) {
            Check.due("habit(" + command + ", 5, 5)", x.habit(command, 5, 5), false);
        }
        for (int stroke : new int[] {-1, 241, MIN, MAX}) {
            Check.due("habit(3, " + stroke + ", 5)", x.habit(3, stroke, 5), false);
        }
        for (int weight : new int[] {-1, 10_001, MIN, MAX}) {
            Check.due("habit(3, 5, " + weight + ")", x.habit(3, 5, weight), false);
            Check.due("habit(3, 0, " + weight + ")", x.habit(3, 0, weight), false);
        }
        Check.due("as at first", x.cheapest(), 10);
        Check.due("none broken", x.broken(), 0);
        Check.due("habit(3, 240, 10000)", x.habit(3, 240, 10_000), true);
        Check.due("cheapest with it", x.cheapest(), 10_010);
        Check.due("one broken", x.broken(), 1);
        Check.due("habit(3, 240, 0)", x.habit(3, 240, 0), true);
        Check.due("a weight of 0", x.cheapest(), 10);
        Check.due("is broken all the same", x.broken(), 1);
        Check.due("habit(3, 0, 77)", x.habit(3, 0, 77), true);
        Check.due("no habit", x.cheapest(), 10);
        Check.due("none broken", x.broken(), 0);
    }

    private static void habitsHaveAPrice() {
        KeyPlan x = new KeyPlan();
        x.want(1, 0);
        x.want(2, 0);
        x.offer(10);
        x.offer(11);
        x.stretch(10, 1);
        x.stretch(11, 9);
        x.habit(1, 11, 8);
        x.habit(2, 11, 7);
        Check.due("the heavier habit is kept", x.cheapest(), 17);
        dueAssigned(x, 11, 10);
        Check.due("the lighter one broken", x.broken(), 1);
        x.uses(1, 2);
        Check.due("uses outweigh it", x.cheapest(), 19);
        dueAssigned(x, 10, 11);
        x.habit(2, 10, 7);
        x.uses(1, 100);
        Check.due("both broken where strokes cost more", x.cheapest(), 100 + 8 + 9 + 7);
        Check.due("two broken", x.broken(), 2);
        x.habit(5, 99, 1000);
        Check.due("a habit of one that is not wanted", x.broken(), 2);
    }

    private static void wantRefused() {
        KeyPlan x = new KeyPlan();
        x.context(0);
        for (int command : new int[] {-1, 40, MIN, MAX}) {
            Check.due("want(" + command + ", 0)", x.want(command, 0), -1);
        }
        for (int context : new int[] {-1, 2, MIN, MAX}) {
            Check.due("want(0, " + context + ")", x.want(0, context), -1);
        }
        Check.due("want(0, 1)", x.want(0, 1), 1);
        Check.due("again", x.want(0, 1), -1);
        Check.due("elsewhere", x.want(0, 0), -1);
        for (int i = 2; i <= 6; i++) {
            Check.due("want " + i, x.want(41 - i, 0), i);
        }
        Check.due("a seventh", x.want(20, 0), -1);
        Check.due("count(5)", x.count(5), 6);
    }

    private static void offerRefused() {
        KeyPlan x = new KeyPlan();
        for (int stroke : new int[] {0, -1, 241, 256, MIN, MAX}) {
            Check.due("offer(" + stroke + ")", x.offer(stroke), -1);
        }
        for (int i = 1; i <= 8; i++) {
            Check.due("offer " + i, x.offer(241 - i), i);
            Check.due("again", x.offer(241 - i), -1);
        }
        Check.due("a ninth", x.offer(1), -1);
        Check.due("count(6)", x.count(6), 8);
    }

    private static void clearTakesAll() {
        KeyPlan x = new KeyPlan();
        x.want(1, 0);
        x.offer(7);
        x.stretch(7, 3);
        x.uses(1, 4);
        Check.due("before", x.cheapest(), 12);
        x.clear();
        Check.due("count(5)", x.count(5), 0);
        Check.due("count(6)", x.count(6), 0);
        Check.due("nothing wanted", x.cheapest(), 0);
        Check.due("assigned(0)", x.assigned(0), -1);
        Check.due("broken", x.broken(), 0);
        Check.due("apply", x.apply(), 0);
        Check.due("want again", x.want(1, 0), 1);
        Check.due("without strokes", x.cheapest(), -1);
        Check.due("offer again", x.offer(7), 1);
        Check.due("stretch and uses stay", x.cheapest(), 12);
    }

    private static void contextsThatMeet() {
        KeyPlan x = new KeyPlan();
        x.context(0);
        x.context(1);
        x.context(2);
        x.context(1);
        x.want(1, 3);
        x.offer(10);
        x.offer(11);
        x.want(2, 4);
        Check.due("brothers' children meet not", x.cheapest(), 20);
        dueAssigned(x, 10, 10);
        x.want(3, 1);
        Check.due("one outside both, two steps", x.cheapest(), 30);
        dueAssigned(x, 10, 10, 11);
        x.want(4, 0);
        Check.due("0 meets all, and 10 and 11 are taken", x.cheapest(), -1);
        x.clear();
        x.offer(10);
        x.want(1, 0);
        x.want(2, 3);
        Check.due("inner told last meets too", x.cheapest(), -1);
        x.clear();
        x.offer(10);
        x.want(1, 2);
        x.want(2, 2);
        Check.due("one context meets itself", x.cheapest(), -1);
    }

    private static void contextsThatMeetFromAfar() {
        KeyPlan x = new KeyPlan();
        for (int i = 0; i < 11; i++) {
            x.context(i);
        }
        x.offer(10);
        x.want(1, 11);
        x.want(2, 0);
        Check.due("eleven steps", x.cheapest(), -1);
        x.clear();
        x.offer(10);
        x.want(1, 0);
        x.want(2, 11);
        Check.due("eleven steps, told the other way", x.cheapest(), -1);
    }

    private static void brokenAskedAlone() {
        KeyPlan x = new KeyPlan();
        x.want(1, 0);
        x.offer(10);
        x.habit(1, 11, 5);
        Check.due("asked before the cheapest", x.broken(), 1);
        x.habit(1, 10, 5);
        Check.due("asked behind a change", x.broken(), 0);
        x.want(2, 0);
        Check.due("asked when there is none", x.broken(), -1);
    }

    private static void alikeOnes() {
        KeyPlan x = new KeyPlan();
        x.want(5, 0);
        x.want(4, 0);
        x.want(3, 0);
        x.offer(30);
        x.offer(20);
        x.offer(10);
        Check.due("alike", x.cheapest(), 30);
        dueAssigned(x, 30, 20, 10);
        x.stretch(30, 11);
        x.offer(40);
        Check.due("without the dear one", x.cheapest(), 30);
        dueAssigned(x, 20, 10, 40);
        x.stretch(30, 9);
        x.stretch(20, 9);
        Check.due("the cheap ones earliest", x.cheapest(), 28);
        dueAssigned(x, 30, 20, 10);
    }

    private static void notTheGreedyOne() {
        KeyPlan x = new KeyPlan();
        x.want(1, 0);
        x.want(2, 0);
        x.offer(10);
        x.offer(11);
        x.stretch(10, 0);
        x.stretch(11, 50);
        x.uses(1, 2);
        x.uses(2, 3);
        Check.due("the first waives the best", x.cheapest(), 100);
        dueAssigned(x, 11, 10);
    }

    private static void noAssignment() {
        KeyPlan x = new KeyPlan();
        x.want(1, 0);
        Check.due("cheapest", x.cheapest(), -1);
        Check.due("assigned", x.assigned(0), -1);
        Check.due("broken", x.broken(), -1);
        Check.due("apply", x.apply(), -1);
        Check.due("count(1)", x.count(1), 0);
        x.offer(7);
        Check.due("then there is one", x.assigned(0), 7);
        x.want(2, 0);
        Check.due("then there is none", x.assigned(0), -1);
        Check.due("broken again", x.broken(), -1);
        Check.due("apply again", x.apply(), -1);
    }

    private static void answersFollowChanges() {
        KeyPlan x = new KeyPlan();
        x.want(1, 0);
        x.offer(10);
        x.offer(11);
        Check.due("assigned", x.assigned(0), 10);
        x.stretch(10, 20);
        Check.due("behind stretch", x.assigned(0), 11);
        x.habit(1, 10, 100);
        Check.due("behind habit", x.assigned(0), 10);
        Check.due("not broken", x.broken(), 0);
        x.uses(1, 50);
        Check.due("behind uses", x.assigned(0), 11);
        Check.due("broken", x.broken(), 1);
        x.stretch(12, 0);
        x.offer(12);
        Check.due("behind offer", x.assigned(0), 12);
    }

    private static void applyPutsStrokesAlone() {
        KeyPlan x = new KeyPlan();
        x.context(0);
        x.context(0);
        x.want(1, 1);
        x.want(2, 2);
        x.want(3, 2);
        x.offer(10);
        x.offer(11);
        x.bind(1, 10, 1);
        x.bind(2, 10, 40);
        x.bind(2, Check.row(10, 11), 2);
        x.bind(2, 50, 2);
        x.bind(0, 10, 9);
        Check.due("one was so, one FREE, one nothing", x.apply(), 2);
        Check.due("has(1, 10)", x.has(1, 10), 1);
        Check.due("has(2, 10)", x.has(2, 10), 2);
        Check.due("has(2, 11)", x.has(2, 11), 3);
        Check.due("the rest stays: longer", x.has(2, Check.row(10, 11)), 2);
        Check.due("the rest stays: another stroke", x.has(2, 50), 2);
        Check.due("the rest stays: outside", x.has(0, 10), 9);
        Check.due("count(1)", x.count(1), 6);
        Check.due("again", x.apply(), 0);
        Check.due("wanted stays", x.count(5), 3);
        Check.due("offered stays", x.count(6), 2);
        x.bind(2, 11, 5);
        Check.due("another command is other", x.apply(), 1);
        Check.due("has(2, 11)", x.has(2, 11), 3);
    }

    private static void applyRefusedWhenFull() {
        KeyPlan x = new KeyPlan();
        for (int i = 1; i <= 119; i++) {
            x.bind(0, Check.row(1, i), 7);
        }
        x.want(1, 0);
        x.want(2, 0);
        x.offer(10);
        x.offer(11);
        Check.due("121 were too many", x.apply(), -1);
        Check.due("nothing is changed", x.has(0, 10), -1);
        Check.due("count(1)", x.count(1), 119);
        x.bind(0, 11, 39);
        Check.due("full, one more needed", x.apply(), -1);
        Check.due("the other is not changed", x.has(0, 11), 39);
        x.bind(0, Check.row(1, 1), -1);
        Check.due("just 120", x.apply(), 2);
        Check.due("count(1) at last", x.count(1), 120);
        Check.due("has(0, 10)", x.has(0, 10), 1);
        Check.due("has(0, 11)", x.has(0, 11), 2);
        Check.due("again on a full one", x.apply(), 0);
    }

    private static void sixOverEight() {
        KeyPlan x = new KeyPlan();
        for (int i = 0; i < 6; i++) {
            x.want(i, 0);
            x.uses(i, 995 + i);
        }
        for (int s = 0; s < 8; s++) {
            x.offer(100 + s);
            x.stretch(100 + s, 100 - s);
        }
        int sum = 0;
        for (int i = 0; i < 6; i++) {
            sum += (995 + i) * (98 - i);
        }
        Check.due("cheapest", x.cheapest(), sum);
        dueAssigned(x, 102, 103, 104, 105, 106, 107);
        for (int i = 0; i < 6; i++) {
            x.habit(i, 100 + i, 10_000);
        }
        int keeping = 0;
        for (int i = 0; i < 6; i++) {
            keeping += (995 + i) * (100 - i);
        }
        Check.due("cheapest with habits", x.cheapest(), keeping);
        Check.due("none broken", x.broken(), 0);
    }
}
