/** The edges of Terms 3 and of promises 13 to 22: prices, habits, six wanted, eight offered, assignments, apply. */
final class AssigningEdgesTest {
    private static final int[] EIGHT = {240, 1, 100, 7, 239, 2, 50, 60};
    private static final int[] SIX = {39, 0, 20, 1, 38, 7};

    private static final Scene fresh = Scene.fresh();
    private static final Scene busy = Scene.busy();
    private static final Scene full = Scene.full();

    public static void main(String[] args) {
        stretchWithinBounds();
        stretchOutOfBounds();
        usesWithinBounds();
        usesOutOfBounds();
        habitWithinBounds();
        habitOutOfBounds();
        habitOfNone();
        habitOfTheSameStroke();
        wantTheFirstAndTheLast();
        wantNoneSuch();
        wantWhatIsWanted();
        wantSix();
        offerTheFirstAndTheLast();
        offerNoneSuch();
        offerWhatIsOffered();
        offerEight();
        clearOfNothing();
        clearOfAll();
        cheapestOfNothing();
        cheapestWithoutEnough();
        cheapestAtTheEndsOfPrices();
        cheapestOfFewerThanBefore();
        theLastWantedGetsTheFirstOffered();
        contextsThatJustMeet();
        ofAlikeOnesTheEarliest();
        assignedWithinBounds();
        brokenFromNoneToSix();
        applyNothing();
        applyUpTo120();
        applyNotBeyond120();
        applyOverAFullMap();
        applyWithoutAssignment();
        applyTellsHowManyWereOther();
        Check.end();
    }

    private static int priceOf(KeyPlan x, int command, int stroke) {
        x.clear();
        x.want(command, 0);
        x.offer(stroke);
        return x.cheapest();
    }

    private static void stretchWithinBounds() {
        for (int stroke : Check.ends(1, 240)) {
            KeyPlan x = new KeyPlan();
            Check.due("13: at first, of " + stroke, priceOf(x, 0, stroke), 10);
            for (int price : Check.ends(0, 100)) {
                Check.due("13: stretch(" + stroke + ", " + price + ")", x.stretch(stroke, price), true);
                Check.due("13: that of " + stroke, priceOf(x, 0, stroke), price);
            }
            Check.due("13: another one's stays", priceOf(x, 0, stroke == 1 ? 2 : stroke - 1), 10);
            Check.due("13: and the next one's", priceOf(x, 0, stroke == 240 ? 1 : stroke + 1), 10);
        }
    }

    private static void stretchOutOfBounds() {
        for (int stroke : Check.outside(1, 240)) {
            busy.dueAndSame("13: stretch(" + stroke + ", 50)", x -> Check.number(x.stretch(stroke, 50)), 0);
        }
        for (int price : Check.outside(0, 100)) {
            busy.dueAndSame("13: stretch(1, " + price + ")", x -> Check.number(x.stretch(1, price)), 0);
            busy.dueAndSame("13: stretch(240, " + price + ")", x -> Check.number(x.stretch(240, price)), 0);
            fresh.dueAndSame("13: stretch(100, " + price + ")", x -> Check.number(x.stretch(100, price)), 0);
        }
        busy.dueAndSame("13: stretch(0, 101)", x -> Check.number(x.stretch(0, 101)), 0);
    }

    private static void usesWithinBounds() {
        for (int command : Check.ends(0, 39)) {
            KeyPlan x = new KeyPlan();
            Check.due("14: at first, of " + command, priceOf(x, command, 5), 10);
            for (int n : Check.ends(0, 1000)) {
                Check.due("14: uses(" + command + ", " + n + ")", x.uses(command, n), true);
                Check.due("14: that of " + command, priceOf(x, command, 5), 10 * n);
            }
            Check.due("14: another one's stays", priceOf(x, (command + 1) % 40, 5), 10);
            Check.due("14: and the one before", priceOf(x, (command + 39) % 40, 5), 10);
        }
    }

    private static void usesOutOfBounds() {
        for (int command : Check.outside(0, 39)) {
            busy.dueAndSame("14: uses(" + command + ", 50)", x -> Check.number(x.uses(command, 50)), 0);
        }
        for (int n : Check.outside(0, 1000)) {
            busy.dueAndSame("14: uses(0, " + n + ")", x -> Check.number(x.uses(0, n)), 0);
            busy.dueAndSame("14: uses(39, " + n + ")", x -> Check.number(x.uses(39, n)), 0);
            fresh.dueAndSame("14: uses(1, " + n + ")", x -> Check.number(x.uses(1, n)), 0);
        }
        busy.dueAndSame("14: uses(40, 1001)", x -> Check.number(x.uses(40, 1001)), 0);
    }

    private static void habitWithinBounds() {
        for (int command : Check.ends(0, 39)) {
            for (int stroke : Check.ends(1, 240)) {
                KeyPlan x = new KeyPlan();
                for (int weight : Check.ends(0, 10_000)) {
                    Check.due("15: habit(" + command + ", " + stroke + ", " + weight + ")",
                        x.habit(command, stroke, weight), true);
                    Check.due("15: its own stroke", priceOf(x, command, stroke), 10);
                    Check.due("15: keeps it", x.broken(), 0);
                    Check.due("15: another stroke", priceOf(x, command, 100), 10 + weight);
                    Check.due("15: breaks it", x.broken(), 1);
                }
                Check.due("15: another command has none", priceOf(x, (command + 1) % 40, 100), 10);
                Check.due("15: nor the one before", priceOf(x, (command + 39) % 40, 100), 10);
            }
        }
    }

    private static void habitOutOfBounds() {
        for (int command : Check.outside(0, 39)) {
            busy.dueAndSame("15: habit(" + command + ", 5, 5)", x -> Check.number(x.habit(command, 5, 5)), 0);
            busy.dueAndSame("15: habit(" + command + ", 0, 0)", x -> Check.number(x.habit(command, 0, 0)), 0);
        }
        for (int stroke : Check.outside(0, 240)) {
            busy.dueAndSame("15: habit(0, " + stroke + ", 5)", x -> Check.number(x.habit(0, stroke, 5)), 0);
            busy.dueAndSame("15: habit(39, " + stroke + ", 5)", x -> Check.number(x.habit(39, stroke, 5)), 0);
            fresh.dueAndSame("15: habit(1, " + stroke + ", 5)", x -> Check.number(x.habit(1, stroke, 5)), 0);
        }
        for (int weight : Check.outside(0, 10_000)) {
            busy.dueAndSame("15: habit(0, 240, " + weight + ")", x -> Check.number(x.habit(0, 240, weight)), 0);
            busy.dueAndSame("15: habit(39, 5, " + weight + ")", x -> Check.number(x.habit(39, 5, weight)), 0);
            busy.dueAndSame("15: habit(0, 0, " + weight + ")", x -> Check.number(x.habit(0, 0, weight)), 0);
            fresh.dueAndSame("15: habit(1, 1, " + weight + ")", x -> Check.number(x.habit(1, 1, weight)), 0);
        }
    }

    private static void habitOfNone() {
        fresh.dueAndSame("15: habit(0, 0, 0), as at first", x -> Check.number(x.habit(0, 0, 0)), 1);
        fresh.dueAndSame("15: habit(39, 0, 10000), as at first", x -> Check.number(x.habit(39, 0, 10_000)), 1);
        KeyPlan x = busy.make();
        Check.due("15: with a habit of 240", priceOf(x, 0, 1), 4 * 3 + 30);
        Check.due("15: habit(0, 0, 10000)", x.habit(0, 0, 10_000), true);
        Check.due("15: without", priceOf(x, 0, 1), 4 * 3);
        Check.due("15: none is broken", x.broken(), 0);
        Check.due("15: nor by another stroke", priceOf(x, 0, 240), 4 * 7);
    }

    private static void habitOfTheSameStroke() {
        KeyPlan x = new KeyPlan();
        x.habit(5, 9, 100);
        x.habit(5, 10, 200);
        Check.due("15: the later habit", priceOf(x, 5, 10), 10);
        Check.due("15: not the earlier one", priceOf(x, 5, 9), 210);
    }

    private static void wantTheFirstAndTheLast() {
        for (int command : Check.ends(0, 39)) {
            KeyPlan x = new KeyPlan();
            Check.due("16: want(" + command + ", 0)", x.want(command, 0), 1);
            Check.due("28: wanted", x.count(5), 1);
            x.offer(5);
            x.apply();
            Check.due("16: that one", x.has(0, 5), command);
        }
        KeyPlan x = full.make();
        x.clear();
        x.bind(0, 5, -1);
        Check.due("16: want(30, 11)", x.want(30, 11), 1);
        x.offer(240);
        x.apply();
        Check.due("16: in that one", x.has(11, 240), 30);
        Check.due("16: of four, want(30, 3)", busy.make().want(30, 3), 4);
    }

    private static void wantNoneSuch() {
        for (int command : Check.outside(0, 39)) {
            fresh.dueAndSame("16: want(" + command + ", 0)", x -> x.want(command, 0), -1);
            busy.dueAndSame("16: want(" + command + ", 3)", x -> x.want(command, 3), -1);
        }
        for (int context : Check.outside(0, 3)) {
            busy.dueAndSame("16: of four, want(3, " + context + ")", x -> x.want(3, context), -1);
        }
        for (int context : Check.outside(0, 0)) {
            fresh.dueAndSame("16: of one, want(3, " + context + ")", x -> x.want(3, context), -1);
        }
        KeyPlan x = full.make();
        x.clear();
        Check.due("16: of twelve, want(3, 12)", x.want(3, 12), -1);
        Check.due("16: of twelve, want(3, -1)", x.want(3, -1), -1);
        Check.due("28: wanted", x.count(5), 0);
    }

    private static void wantWhatIsWanted() {
        for (int context = 0; context < 4; context++) {
            int c = context;
            busy.dueAndSame("16: the first again, in " + c, x -> x.want(0, c), -1);
            busy.dueAndSame("16: the second again, in " + c, x -> x.want(39, c), -1);
            busy.dueAndSame("16: the last again, in " + c, x -> x.want(1, c), -1);
        }
        KeyPlan x = busy.make();
        x.clear();
        Check.due("16: behind clear", x.want(39, 0), 1);
    }

    private static void wantSix() {
        KeyPlan x = new KeyPlan();
        for (int i = 0; i < 6; i++) {
            Check.due("16: want " + (i + 1), x.want(SIX[i], 0), i + 1);
            Check.due("28: wanted", x.count(5), i + 1);
        }
        Check.due("16: a seventh", x.want(30, 0), -1);
        Check.due("28: wanted", x.count(5), 6);
        for (int command : new int[] {30, 0, 39}) {
            for (int context : new int[] {0, 11, 12, -1}) {
                full.dueAndSame("16: a seventh, want(" + command + ", " + context + ")",
                    y -> y.want(command, context), -1);
            }
        }
    }

    private static void offerTheFirstAndTheLast() {
        for (int stroke : Check.ends(1, 240)) {
            KeyPlan x = new KeyPlan();
            Check.due("17: offer(" + stroke + ")", x.offer(stroke), 1);
            Check.due("28: offered", x.count(6), 1);
            x.want(5, 0);
            Check.due("17: that one", x.assigned(0), stroke);
        }
    }

    private static void offerNoneSuch() {
        for (int stroke : Check.outside(1, 240)) {
            fresh.dueAndSame("17: offer(" + stroke + ")", x -> x.offer(stroke), -1);
            busy.dueAndSame("17: offer(" + stroke + ") behind three", x -> x.offer(stroke), -1);
        }
    }

    private static void offerWhatIsOffered() {
        for (int stroke : new int[] {240, 1, 7}) {
            busy.dueAndSame("17: again, offer(" + stroke + ")", x -> x.offer(stroke), -1);
        }
        KeyPlan x = busy.make();
        x.clear();
        Check.due("17: behind clear", x.offer(240), 1);
    }

    private static void offerEight() {
        KeyPlan x = new KeyPlan();
        for (int i = 0; i < 8; i++) {
            Check.due("17: offer " + (i + 1), x.offer(EIGHT[i]), i + 1);
            Check.due("28: offered", x.count(6), i + 1);
        }
        Check.due("17: a ninth", x.offer(70), -1);
        Check.due("28: offered", x.count(6), 8);
        for (int stroke : new int[] {70, 1, 240, 0, 241}) {
            full.dueAndSame("17: a ninth, offer(" + stroke + ")", y -> y.offer(stroke), -1);
        }
    }

    private static void clearOfNothing() {
        fresh.dueAndSame("18: clear() of nothing", x -> {
            x.clear();
            return x.count(5) + x.count(6);
        }, 0);
    }

    private static void clearOfAll() {
        KeyPlan x = full.make();
        Check.due("18: before", x.cheapest(), 60);
        x.clear();
        Check.due("18: wanted", x.count(5), 0);
        Check.due("18: offered", x.count(6), 0);
        Check.due("18: nothing to assign", x.cheapest(), 0);
        Check.due("18: nothing assigned", x.assigned(0), -1);
        Check.due("18: the map stays", x.count(1), 120);
        Check.due("18: what waits stays", x.count(2), 2);
        for (int i = 0; i < 6; i++) {
            Check.due("18: want again", x.want(SIX[i], 11 - i), i + 1);
        }
        for (int i = 0; i < 8; i++) {
            Check.due("18: offer again", x.offer(EIGHT[i]), i + 1);
        }
        Check.due("18: and no more wanted", x.want(30, 0), -1);
        Check.due("18: and no more offered", x.offer(30), -1);
    }

    private static void cheapestOfNothing() {
        fresh.dueAndSame("19: nothing wanted, nothing offered", x -> x.cheapest(), 0);
        KeyPlan x = new KeyPlan();
        for (int stroke : EIGHT) {
            x.offer(stroke);
            Check.due("19: nothing wanted", x.cheapest(), 0);
        }
        Check.due("20: nothing wanted", x.assigned(0), -1);
        Check.due("21: nothing wanted", x.broken(), 0);
    }

    private static void cheapestWithoutEnough() {
        KeyPlan x = new KeyPlan();
        x.want(39, 0);
        dueNoAssignment(x, "one wanted, none offered");
        x.offer(240);
        Check.due("19: one, one", x.cheapest(), 10);
        for (int i = 1; i < 6; i++) {
            x.want(SIX[i], 0);
            dueNoAssignment(x, "one stroke less than wanted");
            x.offer(EIGHT[i]);
            Check.due("19: as many strokes as wanted", x.cheapest(), 10 * (i + 1));
            Check.due("20: the last one's", x.assigned(i), EIGHT[i]);
        }
        x.offer(EIGHT[6]);
        x.offer(EIGHT[7]);
        Check.due("19: two strokes more", x.cheapest(), 60);
    }

    private static void dueNoAssignment(KeyPlan x, String when) {
        Check.due("19: " + when, x.cheapest(), -1);
        Check.due("20: " + when + ", the first", x.assigned(0), -1);
        Check.due("20: " + when + ", the last", x.assigned(x.count(5) - 1), -1);
        Check.due("21: " + when, x.broken(), -1);
        int size = x.count(1);
        Check.due("22: " + when, x.apply(), -1);
        Check.due("22: " + when + ", the map", x.count(1), size);
    }

    private static void cheapestAtTheEndsOfPrices() {
        KeyPlan x = new KeyPlan();
        for (int command : SIX) {
            x.want(command, 0);
            x.uses(command, 1000);
            x.habit(command, 50, 10_000);
        }
        for (int stroke : new int[] {240, 1, 100, 7, 239, 2, 61, 60}) {
            x.offer(stroke);
            x.stretch(stroke, 100);
        }
        Check.due("19: the dearest there can be", x.cheapest(), 6 * (1000 * 100 + 10_000));
        Check.due("21: six habits", x.broken(), 6);
        for (int command : SIX) {
            x.habit(command, 50, 0);
        }
        Check.due("19: without weights", x.cheapest(), 6 * 1000 * 100);
        for (int command : SIX) {
            x.uses(command, 0);
        }
        Check.due("19: nothing", x.cheapest(), 0);
        Check.due("21: six habits of no weight", x.broken(), 6);
        Check.due("20: the first", x.assigned(0), 240);
        Check.due("20: the sixth", x.assigned(5), 2);
    }

    private static void cheapestOfFewerThanBefore() {
        for (int fewer = 1; fewer < 6; fewer++) {
            KeyPlan x = filled(0);
            for (int command : SIX) {
                x.uses(command, 1000);
            }
            Check.due("18: six before", x.cheapest(), 60_000);
            x.clear();
            for (int i = 0; i < fewer; i++) {
                x.want(SIX[i], 1);
                x.offer(EIGHT[i]);
            }
            x.offer(EIGHT[7]);
            x.stretch(EIGHT[7], 9);
            Check.due("18: " + fewer + " behind clear", x.cheapest(), 10_000 * fewer - 1000);
            Check.due("18: the last of " + fewer, x.assigned(fewer - 1), EIGHT[7]);
            Check.due("18: behind the last of " + fewer, x.assigned(fewer), -1);
        }
    }

    private static void theLastWantedGetsTheFirstOffered() {
        KeyPlan x = new KeyPlan();
        for (int i = 0; i < 6; i++) {
            x.want(SIX[i], 0);
            x.uses(SIX[i], 1 + i);
        }
        for (int i = 0; i < 8; i++) {
            x.offer(EIGHT[i]);
            x.stretch(EIGHT[i], 1 + i);
        }
        Check.due("19: the most used nearest", x.cheapest(), 6 + 2 * 5 + 3 * 4 + 4 * 3 + 5 * 2 + 6);
        for (int i = 0; i < 6; i++) {
            Check.due("20: the other way round, " + i, x.assigned(i), EIGHT[5 - i]);
        }
    }

    private static void contextsThatJustMeet() {
        for (int inner = 1; inner <= 11; inner++) {
            KeyPlan x = new KeyPlan();
            for (int i = 0; i < inner; i++) {
                x.context(i);
            }
            x.offer(5);
            x.want(1, 0);
            x.want(2, inner);
            Check.due("3: over " + inner + " steps", x.cheapest(), -1);
            x.clear();
            x.offer(5);
            x.want(1, inner);
            x.want(2, 0);
            Check.due("3: over " + inner + " steps, told the other way", x.cheapest(), -1);
        }
        KeyPlan x = new KeyPlan();
        for (int i = 0; i < 11; i++) {
            x.context(0);
        }
        x.offer(240);
        for (int i = 0; i < 6; i++) {
            x.want(SIX[i], 11 - i);
        }
        Check.due("3: six that meet not, one stroke", x.cheapest(), 60);
        Check.due("3: the first has it", x.assigned(0), 240);
        Check.due("3: the last has it", x.assigned(5), 240);
        Check.due("3: it is put six times", x.apply(), 6);
        Check.due("3: in the first", x.has(11, 240), SIX[0]);
        Check.due("3: in the last", x.has(6, 240), SIX[5]);
        x.clear();
        x.offer(240);
        x.want(1, 11);
        x.want(2, 11);
        Check.due("3: one context is itself", x.cheapest(), -1);
    }

    private static void ofAlikeOnesTheEarliest() {
        KeyPlan x = new KeyPlan();
        for (int command : SIX) {
            x.want(command, 0);
        }
        for (int stroke : EIGHT) {
            x.offer(stroke);
        }
        for (int i = 0; i < 6; i++) {
            Check.due("3: as offered, " + i, x.assigned(i), EIGHT[i]);
        }
        x.stretch(EIGHT[0], 11);
        x.stretch(EIGHT[1], 11);
        for (int i = 0; i < 6; i++) {
            Check.due("3: the last six of eight, " + i, x.assigned(i), EIGHT[i + 2]);
        }
        x.stretch(EIGHT[1], 10);
        Check.due("3: the second is the earliest", x.assigned(0), EIGHT[1]);
        Check.due("3: the last is not needed", x.assigned(5), EIGHT[6]);
        x.habit(SIX[5], EIGHT[1], 1);
        Check.due("3: the last one keeps its habit", x.assigned(5), EIGHT[1]);
        Check.due("3: the first gets the next", x.assigned(0), EIGHT[2]);
    }

    private static void assignedWithinBounds() {
        KeyPlan x = busy.make();
        Check.due("19: the sum", x.cheapest(), 4 * 7 + 9 * 3 + 3);
        Check.due("20: the first", x.assigned(0), 240);
        Check.due("20: the second", x.assigned(1), 1);
        Check.due("20: the last", x.assigned(2), 1);
        for (int i : Check.outside(0, 2)) {
            busy.dueAndSame("20: of three, assigned(" + i + ")", y -> y.assigned(i), -1);
        }
        for (int i : Check.outside(0, 5)) {
            full.dueAndSame("20: of six, assigned(" + i + ")", y -> y.assigned(i), -1);
        }
        for (int i : new int[] {-1, 0, 1, Integer.MIN_VALUE, Integer.MAX_VALUE}) {
            fresh.dueAndSame("20: of none, assigned(" + i + ")", y -> y.assigned(i), -1);
        }
        KeyPlan y = full.make();
        Check.due("20: of six the first", y.assigned(0), 1);
        Check.due("20: of six the last, which meets 0 and 2", y.assigned(5), 5);
    }

    private static void brokenFromNoneToSix() {
        KeyPlan x = new KeyPlan();
        for (int i = 0; i < 6; i++) {
            x.want(SIX[i], 0);
            x.offer(EIGHT[i]);
        }
        Check.due("21: no habits", x.broken(), 0);
        for (int i = 0; i < 6; i++) {
            x.habit(SIX[i], 200, 7);
            Check.due("21: one more", x.broken(), i + 1);
            Check.due("19: with its weight", x.cheapest(), 60 + 7 * (i + 1));
        }
        for (int i = 0; i < 6; i++) {
            x.habit(SIX[i], EIGHT[i], 7);
        }
        Check.due("21: all kept", x.broken(), 0);
        Check.due("19: without weights", x.cheapest(), 60);
    }

    private static void applyNothing() {
        fresh.dueAndSame("22: nothing wanted", x -> x.apply(), 0);
        KeyPlan x = full.make();
        x.clear();
        Check.due("22: nothing wanted, a full map", x.apply(), 0);
        Check.due("22: the map", x.count(1), 120);
        Check.due("22: what was there", x.has(0, 5), 1);
    }

    /** A map of so many rows of two strokes in context 0, and six wanted in context 1. */
    private static void fill(KeyPlan x, int rows) {
        x.context(0);
        for (int i = 1; i <= rows; i++) {
            x.bind(0, Check.row(200, i), i % 41);
        }
        for (int i = 0; i < 6; i++) {
            x.want(SIX[i], 1);
            x.offer(EIGHT[i]);
        }
    }

    private static KeyPlan filled(int rows) {
        KeyPlan x = new KeyPlan();
        fill(x, rows);
        return x;
    }

    private static void applyUpTo120() {
        KeyPlan x = filled(114);
        Check.due("22: 114 and six", x.apply(), 6);
        Check.due("22: full", x.count(1), 120);
        for (int i = 0; i < 6; i++) {
            Check.due("22: has " + i, x.has(1, EIGHT[i]), SIX[i]);
        }
        Check.due("22: again", x.apply(), 0);
        Check.due("22: what was there", x.has(0, Check.row(200, 114)), 114 % 41);
    }

    private static void applyNotBeyond120() {
        for (int rows : new int[] {115, 119, 120}) {
            Scene scene = new Scene(x -> fill(x, rows), 0, 10);
            scene.dueAndSame("22: " + rows + " and six", x -> x.apply(), -1);
        }
        full.dueAndSame("22: a full map and six", x -> x.apply(), -1);
    }

    private static void applyOverAFullMap() {
        KeyPlan x = filled(115);
        x.bind(1, EIGHT[5], KeyPlan.FREE);
        Check.due("22: five more were too many", x.apply(), -1);
        Check.due("22: FREE stays", x.has(1, EIGHT[5]), KeyPlan.FREE);
        Check.due("22: the first is not put", x.has(1, EIGHT[0]), -1);
        x.bind(0, Check.row(200, 1), -1);
        Check.due("22: 115 and five more", x.apply(), 6);
        Check.due("22: full", x.count(1), 120);
        for (int i = 0; i < 6; i++) {
            x.bind(1, EIGHT[i], 30);
        }
        Check.due("22: six others in a full map", x.apply(), 6);
        Check.due("22: full still", x.count(1), 120);
        Check.due("22: has the last", x.has(1, EIGHT[5]), SIX[5]);
    }

    private static void applyWithoutAssignment() {
        Scene scene = new Scene(x -> {
            x.context(0);
            x.bind(1, 5, 9);
            x.want(1, 0);
            x.want(2, 1);
            x.offer(5);
        }, 0, 10);
        scene.dueAndSame("22: there is none", x -> x.apply(), -1);
        scene.dueAndSame("19: there is none", x -> x.cheapest(), -1);
        scene.dueAndSame("20: there is none", x -> x.assigned(0), -1);
        scene.dueAndSame("21: there is none", x -> x.broken(), -1);
    }

    private static void applyTellsHowManyWereOther() {
        KeyPlan x = filled(0);
        Check.due("22: nothing before", x.apply(), 6);
        Check.due("22: all are so", x.apply(), 0);
        for (int i = 0; i < 6; i++) {
            for (int j = 0; j <= i; j++) {
                x.bind(1, EIGHT[j], j % 3 == 0 ? KeyPlan.FREE : j % 3 == 1 ? KeyPlan.NONE : 30);
            }
            Check.due("22: other ones", x.apply(), i + 1);
            Check.due("22: has " + i, x.has(1, EIGHT[i]), SIX[i]);
        }
        x.bind(1, Check.row(EIGHT[0], EIGHT[0]), 30);
        x.bind(0, EIGHT[0], 30);
        Check.due("22: longer rows and rows outside are none of them", x.apply(), 0);
        Check.due("22: they stay", x.count(1), 8);
    }
}
