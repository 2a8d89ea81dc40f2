/** The edges of promises 23 to 25: what is kept, changes from none to 240, and back. */
final class ChangesEdgesTest {
    private static final int FREE = KeyPlan.FREE;
    private static final int NONE = KeyPlan.NONE;
    private static final int LAST_ROW = Check.row(240, 240, 240);

    private static final Scene fresh = Scene.fresh();
    private static final Scene busy = Scene.busy();
    private static final Scene full = Scene.full();

    public static void main(String[] args) {
        anEmptyMapIsKeptAtFirst();
        keepAnEmptyMap();
        keepAFullMap();
        keepInsteadOfBefore();
        keepOfWhatIsKept();
        noChanges();
        changeWithinBounds();
        changeOutOfBounds();
        everyKindOfChange();
        changesInOrder();
        thereAndBackIsNoChange();
        the240Changes();
        backWithoutChanges();
        backToAnEmptyMap();
        backToAFullMap();
        backLeavesTheRest();
        backInContextsMadeLater();
        refusedCallsAreNoChanges();
        Check.end();
    }

    private static void dueChange(KeyPlan x, int i, int context, int row, int had, int has) {
        int[] want = {context, row, had, has};
        for (int what = 0; what < want.length; what++) {
            Check.due("24: change(" + i + ", " + what + ")", x.change(i, what), want[what]);
        }
    }

    private static void anEmptyMapIsKeptAtFirst() {
        KeyPlan x = new KeyPlan();
        Check.due("23: no changes", x.count(8), 0);
        x.bind(0, 5, 0);
        Check.due("23: one change", x.count(8), 1);
        dueChange(x, 0, 0, 5, NONE, 0);
        Check.due("25: back", x.back(), 1);
        Check.due("25: the map is empty", x.count(1), 0);
    }

    private static void keepAnEmptyMap() {
        fresh.dueAndSame("23: keep() of an empty map", x -> {
            x.keep();
            return x.count(8);
        }, 0);
        KeyPlan x = busy.make();
        x.back();
        for (int[] place : new int[][] {{0, 5}, {0, 7}, {0, Check.row(5, 6)}, {0, Check.row(5, 6, 7)},
            {0, LAST_ROW}, {1, 5}, {1, 6}, {2, 240}, {3, 1}}) {
            x.bind(place[0], place[1], NONE);
        }
        Check.due("23: the map is empty", x.count(1), 0);
        Check.due("23: nine changes", x.count(8), 9);
        x.keep();
        Check.due("23: kept", x.count(8), 0);
        x.bind(0, 5, 1);
        Check.due("23: an empty one was kept", x.back(), 1);
        Check.due("23: the map is empty again", x.count(1), 0);
    }

    private static void keepAFullMap() {
        KeyPlan x = full.make();
        x.keep();
        Check.due("23: kept", x.count(8), 0);
        x.bind(0, 5, NONE);
        x.bind(11, 240, 9);
        Check.due("23: two changes", x.count(8), 2);
        dueChange(x, 0, 0, 5, 1, NONE);
        dueChange(x, 1, 11, 240, NONE, 9);
        Check.due("25: back", x.back(), 2);
        Check.due("25: full", x.count(1), 120);
        Check.due("25: and refused", x.bind(11, 240, 9), -2);
        Check.due("25: has(0, 5)", x.has(0, 5), 1);
    }

    private static void keepInsteadOfBefore() {
        KeyPlan x = busy.make();
        Check.due("23: three changes", x.count(8), 3);
        x.keep();
        Check.due("23: none then", x.count(8), 0);
        Check.due("25: nothing goes back", x.back(), 0);
        Check.due("25: has(2, 240)", x.has(2, 240), 2);
        x.bind(2, 240, 39);
        dueChange(x, 0, 2, 240, 2, 39);
    }

    private static void keepOfWhatIsKept() {
        KeyPlan x = new KeyPlan();
        x.bind(0, 5, 1);
        x.keep();
        x.keep();
        Check.due("23: twice", x.count(8), 0);
        x.bind(0, 5, 2);
        Check.due("25: back", x.back(), 1);
        Check.due("25: has(0, 5)", x.has(0, 5), 1);
    }

    private static void noChanges() {
        for (int what = -1; what <= 4; what++) {
            int w = what;
            fresh.dueAndSame("24: of none, change(0, " + w + ")", x -> x.change(0, w), -1);
            fresh.dueAndSame("24: of none, change(-1, " + w + ")", x -> x.change(-1, w), -1);
        }
        fresh.dueAndSame("28: of none, count(8)", x -> x.count(8), 0);
    }

    private static void changeWithinBounds() {
        KeyPlan x = busy.make();
        dueChange(x, 0, 0, Check.row(1, 1), NONE, 38);
        dueChange(x, 1, 2, 240, 39, 2);
        dueChange(x, 2, 3, 1, 0, NONE);
        Check.due("28: count(8)", x.count(8), 3);
    }

    private static void changeOutOfBounds() {
        for (int i : Check.outside(0, 2)) {
            for (int what = 0; what < 4; what++) {
                int w = what;
                busy.dueAndSame("24: of three, change(" + i + ", " + w + ")", x -> x.change(i, w), -1);
            }
        }
        for (int what : Check.outside(0, 3)) {
            busy.dueAndSame("24: change(0, " + what + ")", x -> x.change(0, what), -1);
            busy.dueAndSame("24: change(2, " + what + ")", x -> x.change(2, what), -1);
        }
        int changes = full.make().count(8);
        full.dueAndSame("24: behind the last", x -> x.change(changes, 0), -1);
    }

    private static void everyKindOfChange() {
        int[] kinds = {NONE, 0, 39, FREE};
        for (int had : kinds) {
            for (int has : kinds) {
                KeyPlan x = new KeyPlan();
                x.bind(0, 240, had);
                x.keep();
                x.bind(0, 240, has);
                Check.due("28: " + had + " becomes " + has, x.count(8), had == has ? 0 : 1);
                if (had == has) {
                    dueChange(x, 0, NONE, NONE, NONE, NONE);
                } else {
                    dueChange(x, 0, 0, 240, had, has);
                }
                dueChange(x, 1, NONE, NONE, NONE, NONE);
                Check.due("25: " + has + " back to " + had, x.back(), had == has ? 0 : 1);
                Check.due("25: has " + had, x.has(0, 240), had);
            }
        }
    }

    private static void changesInOrder() {
        KeyPlan x = new KeyPlan();
        for (int i = 0; i < 11; i++) {
            x.context(0);
        }
        int[] rows = {1, 240, Check.row(1, 1), Check.row(240, 1), Check.row(1, 240), Check.row(1, 1, 1), LAST_ROW};
        for (int i = rows.length - 1; i >= 0; i--) {
            x.bind(11, rows[i], i);
            x.bind(0, rows[i], 10 + i);
        }
        x.bind(5, LAST_ROW, 30);
        Check.due("28: count(8)", x.count(8), 15);
        for (int i = 0; i < rows.length; i++) {
            dueChange(x, i, 0, rows[i], NONE, 10 + i);
            dueChange(x, 8 + i, 11, rows[i], NONE, i);
        }
        dueChange(x, 7, 5, LAST_ROW, NONE, 30);
        dueChange(x, 15, NONE, NONE, NONE, NONE);
    }

    private static void thereAndBackIsNoChange() {
        KeyPlan x = busy.make();
        x.bind(0, Check.row(1, 1), NONE);
        Check.due("24: two left", x.count(8), 2);
        dueChange(x, 0, 2, 240, 39, 2);
        x.bind(2, 240, 39);
        x.bind(3, 1, 0);
        Check.due("24: none left", x.count(8), 0);
        Check.due("25: back", x.back(), 0);
    }

    private static void the240Changes() {
        KeyPlan x = new KeyPlan();
        x.context(0);
        for (int i = 1; i <= 120; i++) {
            x.bind(0, 2 * i, i % 41);
        }
        x.keep();
        for (int i = 1; i <= 120; i++) {
            x.bind(0, 2 * i, NONE);
            x.bind(1, 2 * i, (i + 1) % 41);
        }
        Check.due("28: the most changes", x.count(8), 240);
        dueChange(x, 0, 0, 2, 1, NONE);
        dueChange(x, 119, 0, 240, 120 % 41, NONE);
        dueChange(x, 120, 1, 2, NONE, 2);
        dueChange(x, 239, 1, 240, NONE, 121 % 41);
        dueChange(x, 240, NONE, NONE, NONE, NONE);
        Check.due("25: all taken back", x.back(), 240);
        Check.due("28: none left", x.count(8), 0);
        Check.due("25: full", x.count(1), 120);
        Check.due("25: has(0, 240)", x.has(0, 240), 120 % 41);
        Check.due("25: has(1, 240)", x.has(1, 240), NONE);
    }

    private static void backWithoutChanges() {
        fresh.dueAndSame("25: back() at first", x -> x.back(), 0);
        KeyPlan x = busy.make();
        Check.due("25: back", x.back(), 3);
        Check.due("25: back again", x.back(), 0);
        Check.due("25: has(3, 1)", x.has(3, 1), 0);
        Check.due("25: has(0, 1 1)", x.has(0, Check.row(1, 1)), NONE);
        Check.due("25: has(2, 240)", x.has(2, 240), 39);
    }

    private static void backToAnEmptyMap() {
        KeyPlan x = new KeyPlan();
        for (int i = 1; i <= 120; i++) {
            x.bind(0, Check.row(i, i), i % 41);
        }
        Check.due("25: 120 taken back", x.back(), 120);
        Check.due("25: empty", x.count(1), 0);
        Check.due("25: has the first", x.has(0, Check.row(1, 1)), NONE);
        Check.due("25: has the last", x.has(0, Check.row(120, 120)), NONE);
        Check.due("25: and takes again", x.bind(0, 5, 1), NONE);
    }

    private static void backToAFullMap() {
        KeyPlan x = full.make();
        x.keep();
        x.bind(0, 5, 39);
        x.bind(0, 7, NONE);
        Check.due("25: back", x.back(), 2);
        Check.due("25: full", x.count(1), 120);
        Check.due("25: has(0, 5)", x.has(0, 5), 1);
        Check.due("25: has(0, 7)", x.has(0, 7), 3);
        Check.due("25: back again", x.back(), 0);
    }

    private static void backLeavesTheRest() {
        KeyPlan x = busy.make();
        x.back();
        int[] counts = {4, 9, 2, 1, 1, 3, 3, 3, 0};
        for (int what = 0; what < counts.length; what++) {
            Check.due("25: count(" + what + ")", x.count(what), counts[what]);
        }
        Check.due("25: what waits is settled as before", x.settle(31), 1);
        Check.dueOut(x, 1, 2, 31);
    }

    private static void backInContextsMadeLater() {
        KeyPlan x = busy.make();
        x.back();
        Check.due("2: context(3)", x.context(3), 4);
        x.bind(4, 240, 7);
        dueChange(x, 0, 4, 240, NONE, 7);
        Check.due("25: back", x.back(), 1);
        Check.due("25: the context stays", x.count(0), 5);
        Check.due("25: it has nothing", x.has(4, 240), NONE);
    }

    private static void refusedCallsAreNoChanges() {
        KeyPlan x = busy.make();
        x.keep();
        x.bind(0, 0, 1);
        x.bind(4, 5, 1);
        x.bind(0, 5, 41);
        x.bind(0, 5, -2);
        x.bind(3, 5, NONE);
        x.bind(0, 5, 1);
        Check.due("24: refused ones and such as change nothing", x.count(8), 0);
        Check.due("25: back", x.back(), 0);
    }
}
