/** Promises 8 to 12: patience, go, type, settle, out. */
final class TypingTest {
    private static final int MIN = Integer.MIN_VALUE;
    private static final int MAX = Integer.MAX_VALUE;

    public static void main(String[] args) {
        patienceBounds();
        patienceIsWaitedOut();
        patienceMayChange();
        strokesAndTicksRefused();
        rowsOfThree();
        longestRowIsDone();
        doneOnlyUntilLive();
        lostStrokes();
        freeMeansNothing();
        mapChangesWhileStrokesWait();
        threeLostAtOnce();
        typingOverAFullMap();
        goSettles();
        goToTheSame();
        settleTicks();
        outRefused();
        outKeeps400();
        Check.end();
    }

    private static void patienceBounds() {
        KeyPlan x = new KeyPlan();
        for (int wrong : new int[] {-1, 101, MIN, MAX}) {
            Check.due("patience(" + wrong + ")", x.patience(wrong), false);
        }
        x.bind(0, 5, 1);
        x.bind(0, Check.row(5, 6), 2);
        x.type(5, 0);
        x.type(6, 10);
        Check.dueOut(x, 0, 2, 10);
        Check.due("patience(0)", x.patience(0), true);
        Check.due("patience(100)", x.patience(100), true);
        x.type(5, 1000);
        x.type(6, 1100);
        Check.dueOut(x, 1, 2, 1100);
        x.type(5, 2000);
        x.type(6, 2101);
        Check.dueOut(x, 2, 1, 2100);
    }

    private static void patienceIsWaitedOut() {
        KeyPlan x = new KeyPlan();
        x.bind(0, 5, 1);
        x.bind(0, Check.row(5, 6), 2);
        x.bind(0, Check.row(5, 6, 7), 3);
        Check.due("5 at 3", x.type(5, 3), 1);
        Check.due("6 at 13: just in time", x.type(6, 13), 2);
        Check.due("7 at 24: too late", x.type(7, 24), 0);
        Check.dueOut(x, 0, 2, 23);
        Check.due("out 1", Check.out(x, 1, 0), Check.THREW);
        Check.due("7 is lost", x.count(4), 1);
        Check.due("5 at 24", x.type(5, 24), 1);
        Check.due("5 at 35: the first is done, the second waits", x.type(5, 35), 1);
        Check.dueOut(x, 1, 1, 34);
        Check.due("count(3)", x.count(3), 2);
    }

    private static void patienceMayChange() {
        KeyPlan x = new KeyPlan();
        x.bind(0, 5, 1);
        x.bind(0, Check.row(5, 6), 2);
        x.type(5, 0);
        x.patience(3);
        x.type(6, 4);
        Check.dueOut(x, 0, 1, 3);
        x.type(5, 10);
        x.patience(50);
        x.type(6, 60);
        Check.dueOut(x, 1, 2, 60);
    }

    private static void strokesAndTicksRefused() {
        KeyPlan x = new KeyPlan();
        x.bind(0, 5, 1);
        x.bind(0, Check.row(5, 6), 2);
        Check.due("a tick below 0", x.type(5, -1), -1);
        x.type(5, 7);
        for (int stroke : new int[] {0, -1, 241, 256, MIN, MAX}) {
            Check.due("type(" + stroke + ", 100)", x.type(stroke, 100), -1);
        }
        for (int tick : new int[] {6, -1, 1_000_001, MIN, MAX}) {
            Check.due("type(6, " + tick + ")", x.type(6, tick), -1);
        }
        Check.due("refused strokes leave what waits", x.count(2), 1);
        Check.due("and nothing is lost", x.count(4), 0);
        Check.due("and nothing goes out", x.count(3), 0);
        Check.due("the same tick", x.type(6, 7), 0);
        Check.dueOut(x, 0, 2, 7);
        Check.due("the last tick", x.type(5, 1_000_000), 1);
        Check.due("the last tick again", x.type(6, 1_000_000), 0);
        Check.dueOut(x, 1, 2, 1_000_000);
        Check.due("no tick below", x.type(6, 999_999), -1);
    }

    private static void rowsOfThree() {
        KeyPlan x = new KeyPlan();
        x.bind(0, Check.row(1, 2, 3), 9);
        Check.due("1", x.type(1, 0), 1);
        Check.due("2", x.type(2, 0), 2);
        Check.due("3", x.type(3, 1), 0);
        Check.dueOut(x, 0, 9, 1);
        Check.due("count(3)", x.count(3), 1);
        Check.due("count(4)", x.count(4), 0);
        x.type(1, 2);
        Check.due("1 2 and then 1: two are lost", x.type(2, 2), 2);
        Check.due("1 waits", x.type(1, 2), 1);
        Check.due("count(4)", x.count(4), 2);
        x.bind(0, 240, 8);
        Check.due("1 240: one is lost, one done", x.type(240, 5), 0);
        Check.dueOut(x, 1, 8, 5);
        Check.due("count(4)", x.count(4), 3);
    }

    private static void longestRowIsDone() {
        KeyPlan x = new KeyPlan();
        x.bind(0, 1, 10);
        x.bind(0, Check.row(1, 2), 11);
        x.bind(0, Check.row(1, 2, 3), 12);
        x.type(1, 0);
        Check.due("1 2 may go on", x.type(2, 1), 2);
        Check.due("4 does not go on", x.type(4, 2), 0);
        Check.dueOut(x, 0, 11, 2);
        Check.due("only the longest", x.count(3), 1);
        Check.due("4 is lost", x.count(4), 1);
        x.type(1, 10);
        x.type(2, 11);
        Check.due("settle", x.settle(15), 1);
        Check.dueOut(x, 1, 11, 15);
        x.bind(0, Check.row(1, 2), -1);
        x.type(1, 20);
        x.type(2, 21);
        Check.due("settle: 1 done, 2 lost", x.settle(21), 1);
        Check.dueOut(x, 2, 10, 21);
        Check.due("count(4)", x.count(4), 2);
    }

    private static void doneOnlyUntilLive() {
        KeyPlan x = new KeyPlan();
        x.bind(0, 1, 10);
        x.bind(0, Check.row(1, 2, 9), 11);
        x.bind(0, Check.row(2, 3, 4), 12);
        x.type(1, 0);
        x.type(2, 1);
        Check.due("1 2 3: 1 is done, 2 3 is live", x.type(3, 2), 2);
        Check.dueOut(x, 0, 10, 2);
        Check.due("2 3 4", x.type(4, 3), 0);
        Check.dueOut(x, 1, 12, 3);
        Check.due("nothing lost", x.count(4), 0);
        x.bind(0, 3, 13);
        x.type(1, 5);
        x.type(2, 6);
        x.type(2, 7);
        Check.due("1 2 2: 1 done, 2 lost, 2 waits", x.count(2), 1);
        Check.due("count(4)", x.count(4), 1);
        x.type(3, 8);
        Check.due("2 3 waits though 3 is a row", x.count(2), 2);
        Check.due("settle: 2 lost, 3 done", x.settle(9), 1);
        Check.dueOut(x, 3, 13, 9);
        Check.due("count(4)", x.count(4), 2);
    }

    private static void lostStrokes() {
        KeyPlan x = new KeyPlan();
        Check.due("no rows at all", x.type(5, 0), 0);
        Check.due("lost", x.count(4), 1);
        x.bind(0, Check.row(5, 6), 1);
        x.type(5, 3);
        Check.due("lost when patience ends", x.type(5, 14), 1);
        Check.due("lost", x.count(4), 2);
        Check.due("settle with nothing done", x.settle(14), 0);
        Check.due("lost", x.count(4), 3);
        Check.due("none wait", x.count(2), 0);
        Check.due("none out", x.count(3), 0);
    }

    private static void freeMeansNothing() {
        KeyPlan x = new KeyPlan();
        x.context(0);
        x.bind(0, 5, 1);
        x.bind(0, Check.row(5, 6), 2);
        x.bind(1, Check.row(5, 6), 40);
        x.go(1);
        Check.due("5 waits for nothing here", x.type(5, 0), 0);
        Check.dueOut(x, 0, 1, 0);
        x.bind(1, 5, 40);
        Check.due("5 is not live here", x.type(5, 0), 0);
        Check.due("it is lost", x.count(4), 1);
        x.go(0);
        Check.due("5 waits outside", x.type(5, 0), 1);
    }

    private static void mapChangesWhileStrokesWait() {
        KeyPlan x = new KeyPlan();
        x.bind(0, Check.row(1, 2, 3), 9);
        x.type(1, 0);
        x.type(2, 0);
        x.bind(0, Check.row(1, 2, 3), -1);
        Check.due("they wait on", x.count(2), 2);
        x.bind(0, 2, 8);
        x.bind(0, Check.row(2, 3, 4), 7);
        x.bind(0, Check.row(3, 4), 6);
        Check.due("1 lost, 2 3 live", x.type(3, 5), 2);
        x.bind(0, Check.row(2, 3, 4), -1);
        Check.due("2 done, 3 4 done", x.type(4, 6), 0);
        Check.dueOut(x, 0, 8, 6);
        Check.dueOut(x, 1, 6, 6);
        Check.due("count(4)", x.count(4), 1);
        x.bind(0, Check.row(5, 6), 5);
        x.type(5, 7);
        x.bind(0, Check.row(5, 6), -1);
        x.bind(0, 5, 4);
        Check.due("a row that came behind waits on", x.count(2), 1);
        x.back();
        Check.due("it waits on when the map goes back", x.count(2), 1);
        Check.due("settle finds nothing", x.settle(8), 0);
        Check.due("count(4)", x.count(4), 2);
    }

    private static void threeLostAtOnce() {
        KeyPlan x = new KeyPlan();
        x.bind(0, Check.row(1, 2, 3), 9);
        x.type(1, 0);
        x.type(2, 0);
        x.bind(0, Check.row(1, 2, 3), 40);
        Check.due("none of the three is live", x.type(3, 1), 0);
        Check.due("count(4)", x.count(4), 3);
        Check.due("count(3)", x.count(3), 0);
    }

    private static void typingOverAFullMap() {
        KeyPlan x = new KeyPlan();
        for (int i = 1; i <= 120; i++) {
            x.bind(0, Check.row(i, 7), i % 40);
        }
        Check.due("7 waits", x.type(7, 0), 1);
        Check.due("7 7 is done", x.type(7, 0), 0);
        Check.due("200 begins nothing", x.type(200, 1), 0);
        Check.due("120 waits", x.type(120, 1), 1);
        Check.due("120 121: both are lost", x.type(121, 1), 0);
        Check.due("count(4)", x.count(4), 3);
        Check.dueOut(x, 0, 7, 0);
        x.bind(0, Check.row(120, 7), -1);
        Check.due("a row that went makes nothing live", x.type(120, 2), 0);
        Check.due("count(4)", x.count(4), 4);
    }

    private static void goSettles() {
        KeyPlan x = new KeyPlan();
        x.context(0);
        x.bind(0, 5, 1);
        x.bind(1, 5, 2);
        x.bind(0, Check.row(5, 6), 3);
        x.type(5, 40);
        x.settle(60);
        Check.dueOut(x, 0, 1, 60);
        x.type(5, 44);
        for (int wrong : new int[] {-1, 2, 12, MIN, MAX}) {
            Check.due("go(" + wrong + ")", x.go(wrong), false);
        }
        Check.due("refused: it waits", x.count(2), 1);
        Check.due("refused: at hand", x.count(7), 0);
        Check.due("go(1)", x.go(1), true);
        Check.due("at hand", x.count(7), 1);
        Check.dueOut(x, 1, 1, 44);
        Check.due("none wait", x.count(2), 0);
        x.type(5, 45);
        x.go(0);
        Check.dueOut(x, 2, 2, 45);
    }

    private static void goToTheSame() {
        KeyPlan x = new KeyPlan();
        x.bind(0, 5, 1);
        x.bind(0, Check.row(5, 6), 3);
        x.type(5, 4);
        Check.due("go(0)", x.go(0), true);
        Check.dueOut(x, 0, 1, 4);
        Check.due("none wait", x.count(2), 0);
    }

    private static void settleTicks() {
        KeyPlan x = new KeyPlan();
        Check.due("settle(-1)", x.settle(-1), -1);
        Check.due("settle(0) with none", x.settle(0), 0);
        x.bind(0, 5, 1);
        x.bind(0, 6, 2);
        x.bind(0, Check.row(5, 6, 7), 3);
        x.type(5, 50);
        x.type(6, 52);
        for (int tick : new int[] {51, -1, 1_000_001, MIN, MAX}) {
            Check.due("settle(" + tick + ")", x.settle(tick), -1);
        }
        Check.due("refused: they wait", x.count(2), 2);
        Check.due("both went out", x.settle(1_000_000), 2);
        Check.dueOut(x, 0, 1, 1_000_000);
        Check.dueOut(x, 1, 2, 1_000_000);
        Check.due("nothing more", x.settle(1_000_000), 0);
        Check.due("the last stroke's tick stays", x.type(5, 52), 1);
        Check.due("at the very tick", x.settle(52), 1);
        Check.dueOut(x, 2, 1, 52);
    }

    private static void outRefused() {
        KeyPlan x = new KeyPlan();
        Check.due("none yet", Check.out(x, 0, 0), Check.THREW);
        x.bind(0, 5, 1);
        x.type(5, 3);
        Check.dueOut(x, 0, 1, 3);
        for (int i : new int[] {-1, 1, 400, MIN, MAX}) {
            Check.due("out(" + i + ", 0)", Check.out(x, i, 0), Check.THREW);
            Check.due("out(" + i + ", 1)", Check.out(x, i, 1), Check.THREW);
        }
        for (int what : new int[] {-1, 2, MIN, MAX}) {
            Check.due("out(0, " + what + ")", Check.out(x, 0, what), Check.THREW);
        }
    }

    private static void outKeeps400() {
        KeyPlan x = new KeyPlan();
        x.bind(0, 5, 1);
        x.bind(0, 6, 2);
        x.bind(0, Check.row(5, 6), 3);
        for (int i = 0; i < 399; i++) {
            x.type(6, i);
        }
        x.type(5, 500);
        x.type(5, 501);
        Check.dueOut(x, 399, 1, 501);
        Check.due("the 401st counts for settle", x.settle(502), 1);
        Check.due("it is not kept", Check.out(x, 400, 0), Check.THREW);
        Check.due("all that went out are counted", x.count(3), 401);
        Check.dueOut(x, 0, 2, 0);
        Check.dueOut(x, 398, 2, 398);
    }
}
