/** Promises 23 to 25: keep, change, back. */
final class ChangesTest {
    private static final int MIN = Integer.MIN_VALUE;
    private static final int MAX = Integer.MAX_VALUE;

    public static void main(String[] args) {
        emptyAtFirst();
        everyKindInOrder();
        undoneChangesAreNone();
        keptInsteadOfBefore();
        backIsExact();
        mostChanges();
        Check.end();
    }

    private static void dueChange(KeyPlan x, int i, int context, int row, int had, int has) {
        int[] want = {context, row, had, has};
        for (int what = 0; what < want.length; what++) {
            Check.due("change(" + i + ", " + what + ")", x.change(i, what), want[what]);
        }
    }

    private static void emptyAtFirst() {
        KeyPlan x = new KeyPlan();
        Check.due("none", x.change(0, 0), -1);
        x.bind(0, 5, 1);
        dueChange(x, 0, 0, 5, -1, 1);
        for (int i : new int[] {-1, 1, MIN, MAX}) {
            Check.due("change(" + i + ", 0)", x.change(i, 0), -1);
        }
        for (int what : new int[] {-1, 4, MIN, MAX}) {
            Check.due("change(0, " + what + ")", x.change(0, what), -1);
        }
        Check.due("back to the empty one", x.back(), 1);
        Check.due("count(1)", x.count(1), 0);
    }

    private static void everyKindInOrder() {
        KeyPlan x = new KeyPlan();
        x.context(0);
        x.bind(0, 200, 1);
        x.bind(0, Check.row(1, 1), 2);
        x.bind(0, 6, 4);
        x.bind(1, 5, 3);
        x.keep();
        Check.due("none behind keep", x.count(8), 0);
        x.bind(1, 5, -1);
        x.bind(1, 4, 40);
        x.bind(0, Check.row(1, 1), 39);
        x.bind(0, Check.row(2, 1, 1), 0);
        x.bind(0, 200, 40);
        x.bind(0, 201, 8);
        Check.due("count(8)", x.count(8), 6);
        dueChange(x, 0, 0, 200, 1, 40);
        dueChange(x, 1, 0, 201, -1, 8);
        dueChange(x, 2, 0, Check.row(1, 1), 2, 39);
        dueChange(x, 3, 0, Check.row(2, 1, 1), -1, 0);
        dueChange(x, 4, 1, 4, -1, 40);
        dueChange(x, 5, 1, 5, 3, -1);
        dueChange(x, 6, -1, -1, -1, -1);
    }

    private static void undoneChangesAreNone() {
        KeyPlan x = new KeyPlan();
        x.bind(0, 5, 1);
        x.keep();
        x.bind(0, 5, 2);
        x.bind(0, 6, 2);
        x.bind(0, 5, 1);
        x.bind(0, 6, -1);
        Check.due("count(8)", x.count(8), 0);
        Check.due("back", x.back(), 0);
        Check.due("has", x.has(0, 5), 1);
    }

    private static void keptInsteadOfBefore() {
        KeyPlan x = new KeyPlan();
        x.bind(0, 5, 1);
        x.keep();
        x.bind(0, 6, 2);
        x.keep();
        x.bind(0, 5, -1);
        x.bind(0, 6, -1);
        Check.due("back to the second", x.back(), 2);
        Check.due("has(0, 5)", x.has(0, 5), 1);
        Check.due("has(0, 6)", x.has(0, 6), 2);
        x.bind(0, 5, 9);
        Check.due("what is kept stays behind back", x.back(), 1);
        Check.due("has(0, 5) again", x.has(0, 5), 1);
        Check.due("back twice", x.back(), 0);
    }

    private static void backIsExact() {
        KeyPlan x = new KeyPlan();
        x.context(0);
        x.bind(0, 5, 1);
        x.bind(1, 5, 40);
        x.keep();
        x.context(1);
        x.bind(2, 5, 7);
        x.bind(0, 5, 2);
        x.bind(1, 5, -1);
        x.want(3, 1);
        x.offer(9);
        x.apply();
        Check.due("back", x.back(), 4);
        Check.due("count(1)", x.count(1), 2);
        Check.due("has(0, 5)", x.has(0, 5), 1);
        Check.due("has(1, 5)", x.has(1, 5), 40);
        Check.due("has(2, 5)", x.has(2, 5), -1);
        Check.due("has(1, 9)", x.has(1, 9), -1);
        Check.due("contexts stay", x.count(0), 3);
        Check.due("wanted stays", x.count(5), 1);
        Check.due("offered stays", x.count(6), 1);
        Check.due("apply again", x.apply(), 1);
    }

    private static void mostChanges() {
        KeyPlan x = new KeyPlan();
        for (int i = 1; i <= 120; i++) {
            x.bind(0, i, 1);
        }
        x.keep();
        for (int i = 1; i <= 120; i++) {
            x.bind(0, i, -1);
        }
        for (int i = 121; i <= 240; i++) {
            x.bind(0, i, 2);
        }
        Check.due("count(8)", x.count(8), 240);
        dueChange(x, 0, 0, 1, 1, -1);
        dueChange(x, 239, 0, 240, -1, 2);
        Check.due("change(240, 0)", x.change(240, 0), -1);
        Check.due("back", x.back(), 240);
        Check.due("count(1)", x.count(1), 120);
        Check.due("has(0, 120)", x.has(0, 120), 1);
        Check.due("has(0, 121)", x.has(0, 121), -1);
    }
}
