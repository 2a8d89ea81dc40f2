import java.util.NoSuchElementException;

/** The edges of Terms 2 and of promises 8 to 12: patience, contexts at hand, strokes, ticks, what went out. */
final class TypingEdgesTest {
    private static final int LAST_TICK = 1_000_000;
    private static final int PAIR = Check.row(5, 6);

    private static final Scene fresh = Scene.fresh();
    private static final Scene busy = Scene.busy();
    private static final Scene full = Scene.full();
    private static final Scene typedMuch = Scene.typedMuch();

    public static void main(String[] args) {
        patienceWithinBounds();
        patienceOutOfBounds();
        tenTicksAtFirst();
        goToTheFirstAndTheLast();
        goToNone();
        goSettlesInTheOldOne();
        goWithNoneWaiting();
        typeTheFirstAndTheLastStroke();
        typeNoStroke();
        typeTheFirstTicks();
        typeTheLastTicks();
        typeNoTickBelowTheLastOnes();
        patienceOverTheLastTick();
        noneOneOrTwoWait();
        justThese();
        allThatWaitAreDone();
        allThatWaitAreLost();
        noneOfThemWaitsBehindTheLoop();
        settleTicks();
        settleNoTick();
        settleNone();
        settleTellsHowMany();
        settleLeavesTheLastTick();
        outWithinBounds();
        outOfNone();
        the400thIsKept();
        the401stIsNot();
        theLastCallsOfAll();
        Check.end();
    }

    private static KeyPlan withPair(int patience) {
        KeyPlan x = new KeyPlan();
        x.bind(0, 5, 1);
        x.bind(0, PAIR, 2);
        x.patience(patience);
        return x;
    }

    /** Strokes 5 and 6, so many ticks apart: together they are 2, apart 5 is 1 at the end of patience. */
    private static void duePatience(KeyPlan x, int patience, int tick) {
        int before = x.count(3);
        Check.due("8: 5 waits", x.type(5, tick), 1);
        Check.due("8: 6 in time", x.type(6, tick + patience), 0);
        Check.dueOut(x, before, 2, tick + patience);
        int later = tick + 200;
        Check.due("8: 5 waits again", x.type(5, later), 1);
        int lost = x.count(4);
        Check.due("8: 6 one tick too late", x.type(6, later + patience + 1), 0);
        Check.dueOut(x, before + 1, 1, later + patience);
        Check.due("8: 6 is lost", x.count(4), lost + 1);
        Check.due("8: two went out", x.count(3), before + 2);
    }

    private static void patienceWithinBounds() {
        for (int ticks : Check.ends(0, 100)) {
            KeyPlan x = withPair(50);
            Check.due("8: patience(" + ticks + ")", x.patience(ticks), true);
            duePatience(x, ticks, 0);
            duePatience(x, ticks, 1000);
        }
    }

    private static void patienceOutOfBounds() {
        for (int ticks : Check.outside(0, 100)) {
            fresh.dueAndSame("8: patience(" + ticks + ")", x -> Check.number(x.patience(ticks)), 0);
            busy.dueAndSame("8: patience(" + ticks + "), 20 before", x -> Check.number(x.patience(ticks)), 0);
            KeyPlan x = new KeyPlan();
            x.bind(0, 5, 1);
            x.bind(0, PAIR, 2);
            x.patience(ticks);
            duePatience(x, 10, 0);
        }
    }

    private static void tenTicksAtFirst() {
        KeyPlan x = new KeyPlan();
        x.bind(0, 5, 1);
        x.bind(0, PAIR, 2);
        duePatience(x, 10, 3);
    }

    private static void goToTheFirstAndTheLast() {
        KeyPlan x = full.make();
        Check.due("9: at hand", x.count(7), 11);
        Check.due("9: go(0)", x.go(0), true);
        Check.due("9: at hand", x.count(7), 0);
        Check.due("9: go(11)", x.go(11), true);
        Check.due("9: at hand", x.count(7), 11);
        KeyPlan y = busy.make();
        Check.due("9: of four, go(3)", y.go(3), true);
    }

    private static void goToNone() {
        for (int context : Check.outside(0, 0)) {
            fresh.dueAndSame("9: of one, go(" + context + ")", x -> Check.number(x.go(context)), 0);
        }
        for (int context : Check.outside(0, 3)) {
            busy.dueAndSame("9: of four, go(" + context + ")", x -> Check.number(x.go(context)), 0);
        }
        for (int context : Check.outside(0, 11)) {
            full.dueAndSame("9: of twelve, go(" + context + ")", x -> Check.number(x.go(context)), 0);
        }
    }

    private static void goSettlesInTheOldOne() {
        KeyPlan x = new KeyPlan();
        x.context(0);
        x.bind(0, 5, 1);
        x.bind(0, PAIR, 2);
        x.bind(1, 5, 3);
        x.type(5, LAST_TICK);
        Check.due("9: go(1)", x.go(1), true);
        Check.dueOut(x, 0, 1, LAST_TICK);
        Check.due("9: none wait", x.count(2), 0);
        Check.due("9: 5 waits in 1", x.type(5, LAST_TICK), 1);
        Check.due("9: go(0)", x.go(0), true);
        Check.dueOut(x, 1, 3, LAST_TICK);
        Check.due("9: two went out", x.count(3), 2);
    }

    private static void goWithNoneWaiting() {
        fresh.dueAndSame("9: go(0) at first", x -> Check.number(x.go(0)), 1);
        KeyPlan x = busy.make();
        x.settle(31);
        int out = x.count(3);
        int lost = x.count(4);
        Check.due("9: go(0)", x.go(0), true);
        Check.due("9: none more went out", x.count(3), out);
        Check.due("9: none more was lost", x.count(4), lost);
    }

    private static void typeTheFirstAndTheLastStroke() {
        for (int stroke : Check.ends(1, 240)) {
            KeyPlan x = new KeyPlan();
            x.bind(0, stroke, 39);
            Check.due("10: type(" + stroke + ", 0)", x.type(stroke, 0), 0);
            Check.dueOut(x, 0, 39, 0);
            x.bind(0, Check.row(stroke, stroke, stroke), 0);
            Check.due("10: it waits", x.type(stroke, 1), 1);
            Check.due("10: two wait", x.type(stroke, 1), 2);
            Check.due("10: three are done", x.type(stroke, 1), 0);
            Check.dueOut(x, 1, 0, 1);
        }
    }

    private static void typeNoStroke() {
        for (int stroke : Check.outside(1, 240)) {
            fresh.dueAndSame("10: type(" + stroke + ", 0)", x -> x.type(stroke, 0), -1);
            busy.dueAndSame("10: type(" + stroke + ", 31)", x -> x.type(stroke, 31), -1);
            busy.dueAndSame("10: type(" + stroke + ", 500)", x -> x.type(stroke, 500), -1);
        }
        full.dueAndSame("10: type(0, 41)", x -> x.type(0, 41), -1);
        full.dueAndSame("10: type(241, 1000)", x -> x.type(241, 1000), -1);
    }

    private static void typeTheFirstTicks() {
        Check.due("10: tick 0", withPair(10).type(5, 0), 1);
        Check.due("10: the last tick at once", withPair(10).type(5, LAST_TICK), 1);
        for (int tick : Check.outside(0, LAST_TICK)) {
            fresh.dueAndSame("10: type(5, " + tick + ") at first", x -> x.type(5, tick), -1);
        }
    }

    private static void typeTheLastTicks() {
        KeyPlan x = withPair(100);
        Check.due("10: one below the last tick", x.type(5, LAST_TICK - 1), 1);
        Check.due("10: above the last tick", x.type(6, LAST_TICK + 1), -1);
        Check.due("10: the last tick", x.type(6, LAST_TICK), 0);
        Check.dueOut(x, 0, 2, LAST_TICK);
        Check.due("10: the last tick again", x.type(5, LAST_TICK), 1);
        Check.due("10: no tick below it", x.type(6, LAST_TICK - 1), -1);
        Check.due("10: it waits", x.count(2), 1);
        Check.due("10: the last tick once more", x.type(6, LAST_TICK), 0);
        Check.dueOut(x, 1, 2, LAST_TICK);
    }

    private static void typeNoTickBelowTheLastOnes() {
        for (int tick : Check.outside(31, LAST_TICK)) {
            busy.dueAndSame("10: type(7, " + tick + ") behind 31", x -> x.type(7, tick), -1);
        }
        KeyPlan x = busy.make();
        Check.due("10: type(7, 31)", x.type(7, 31), 0);
        Check.dueOut(x, 1, 3, 31);
        full.dueAndSame("10: type(7, 40) behind 41", y -> y.type(7, 40), -1);
        typedMuch.dueAndSame("10: type(6, 401) behind 402", y -> y.type(6, 401), -1);
        KeyPlan lost = new KeyPlan();
        lost.type(5, 70);
        Check.due("10: behind one that was lost", lost.type(5, 69), -1);
        Check.due("10: with it", lost.type(5, 70), 0);
        Check.due("10: two were lost", lost.count(4), 2);
    }

    private static void patienceOverTheLastTick() {
        KeyPlan x = withPair(100);
        x.type(5, LAST_TICK - 100);
        Check.due("10: just in time", x.type(6, LAST_TICK), 0);
        Check.dueOut(x, 0, 2, LAST_TICK);
        KeyPlan y = withPair(100);
        y.type(5, LAST_TICK - 101);
        Check.due("10: one tick too late", y.type(6, LAST_TICK), 0);
        Check.dueOut(y, 0, 1, LAST_TICK - 1);
        KeyPlan z = withPair(100);
        z.type(5, 0);
        Check.due("10: far too late", z.type(5, LAST_TICK), 1);
        Check.dueOut(z, 0, 1, 100);
        Check.due("10: one went out", z.count(3), 1);
    }

    private static void noneOneOrTwoWait() {
        KeyPlan x = new KeyPlan();
        x.bind(0, Check.row(1, 1, 1), 4);
        Check.due("2: at first", x.count(2), 0);
        Check.due("10: one waits", x.type(1, 0), 1);
        Check.due("10: two wait", x.type(1, 0), 2);
        Check.due("28: two wait", x.count(2), 2);
        Check.due("10: none waits", x.type(1, 0), 0);
        Check.due("28: none waits", x.count(2), 0);
        x.type(1, 1);
        x.type(1, 1);
        Check.due("10: 1 1 2 are lost", x.type(2, 1), 0);
        Check.due("28: three are lost", x.count(4), 3);
    }

    private static void justThese() {
        KeyPlan x = new KeyPlan();
        x.bind(0, PAIR, 2);
        Check.due("2: 5 is no row, but begins one", x.type(5, 0), 1);
        Check.due("2: 5 6 is just a row", x.type(6, 0), 0);
        Check.dueOut(x, 0, 2, 0);
        x.bind(0, Check.row(5, 6, 240), 3);
        x.type(5, 1);
        Check.due("2: 5 6 begins a longer one", x.type(6, 1), 2);
        Check.due("2: 5 6 240 is done", x.type(240, 1), 0);
        Check.dueOut(x, 1, 3, 1);
        x.bind(0, Check.row(5, 6, 240), KeyPlan.FREE);
        x.type(5, 2);
        Check.due("2: a longer one that means nothing", x.type(6, 2), 0);
        Check.dueOut(x, 2, 2, 2);
        x.bind(0, Check.row(6, 5, 6), 4);
        x.type(5, 3);
        Check.due("2: a longer one that ends with them", x.type(6, 3), 0);
        Check.dueOut(x, 3, 2, 3);
    }

    private static void allThatWaitAreDone() {
        KeyPlan x = new KeyPlan();
        x.bind(0, Check.row(1, 2, 3), 9);
        x.bind(0, 1, 10);
        x.bind(0, 2, 11);
        x.bind(0, 4, 12);
        x.type(1, 0);
        x.type(2, 1);
        Check.due("2: three rows are done at one stroke", x.type(4, 2), 0);
        Check.dueOut(x, 0, 10, 2);
        Check.dueOut(x, 1, 11, 2);
        Check.dueOut(x, 2, 12, 2);
        Check.due("2: three went out", x.count(3), 3);
        Check.due("2: none is lost", x.count(4), 0);
        x.type(1, 20);
        x.type(2, 21);
        Check.due("2: two when patience ended, one now", x.type(4, 32), 0);
        Check.dueOut(x, 3, 10, 31);
        Check.dueOut(x, 4, 11, 31);
        Check.dueOut(x, 5, 12, 32);
    }

    private static void allThatWaitAreLost() {
        KeyPlan x = new KeyPlan();
        x.bind(0, Check.row(1, 2, 3), 9);
        x.type(1, 0);
        x.type(2, 0);
        Check.due("2: all three are lost", x.type(240, 10), 0);
        Check.due("2: three", x.count(4), 3);
        Check.due("2: none went out", x.count(3), 0);
        x.type(1, 20);
        x.type(2, 20);
        Check.due("2: two lost when patience ended", x.type(3, 31), 0);
        Check.due("2: and 3, which begins nothing", x.count(4), 6);
        Check.due("2: none went out", x.count(3), 0);
    }

    private static void noneOfThemWaitsBehindTheLoop() {
        KeyPlan x = new KeyPlan();
        Check.due("2: in an empty map", x.type(1, 0), 0);
        Check.due("2: it is lost", x.count(4), 1);
        Check.due("2: nothing is done where none waits", x.count(3), 0);
        x.bind(0, 240, 1);
        Check.due("2: another one", x.type(1, 0), 0);
        Check.due("2: it is lost", x.count(4), 2);
        Check.due("2: nothing is done", x.count(3), 0);
    }

    private static void settleTicks() {
        for (int tick : Check.ends(31, LAST_TICK)) {
            KeyPlan x = busy.make();
            Check.due("11: settle(" + tick + ")", x.settle(tick), 1);
            Check.dueOut(x, 1, 2, tick);
            Check.due("11: none wait", x.count(2), 0);
        }
        KeyPlan x = new KeyPlan();
        Check.due("11: settle(0) at first", x.settle(0), 0);
        Check.due("11: settle(1000000) at first", x.settle(LAST_TICK), 0);
    }

    private static void settleNoTick() {
        for (int tick : Check.outside(0, LAST_TICK)) {
            fresh.dueAndSame("11: settle(" + tick + ") at first", x -> x.settle(tick), -1);
        }
        for (int tick : Check.outside(31, LAST_TICK)) {
            busy.dueAndSame("11: settle(" + tick + ") behind 31", x -> x.settle(tick), -1);
        }
        full.dueAndSame("11: settle(40) behind 41", x -> x.settle(40), -1);
        KeyPlan x = busy.make();
        x.settle(31);
        Check.due("11: with none waiting, below", x.settle(30), -1);
        Check.due("11: with none waiting, above", x.settle(LAST_TICK + 1), -1);
        Check.due("11: with none waiting, within", x.settle(31), 0);
    }

    private static void settleNone() {
        fresh.dueAndSame("11: settle(0) with none waiting", x -> x.settle(0), 0);
        fresh.dueAndSame("11: settle(1000000) with none waiting", x -> x.settle(LAST_TICK), 0);
    }

    private static void settleTellsHowMany() {
        KeyPlan x = new KeyPlan();
        x.bind(0, Check.row(1, 2, 3), 9);
        x.type(1, 0);
        x.type(2, 0);
        Check.due("11: both are lost", x.settle(5), 0);
        Check.due("28: lost", x.count(4), 2);
        x.bind(0, 2, 11);
        x.type(1, 6);
        x.type(2, 6);
        Check.due("11: one is lost, one goes out", x.settle(7), 1);
        x.bind(0, 1, 10);
        x.type(1, 8);
        x.type(2, 8);
        Check.due("11: two go out", x.settle(9), 2);
        Check.dueOut(x, 1, 10, 9);
        Check.dueOut(x, 2, 11, 9);
        x.bind(0, Check.row(1, 2), 12);
        x.type(1, 10);
        x.type(2, 10);
        Check.due("11: one row of two", x.settle(11), 1);
        Check.due("28: lost", x.count(4), 3);
    }

    private static void settleLeavesTheLastTick() {
        KeyPlan x = withPair(10);
        x.type(5, 50);
        Check.due("11: settle(1000000)", x.settle(LAST_TICK), 1);
        Check.due("11: settle(50)", x.settle(50), 0);
        Check.due("11: settle(49)", x.settle(49), -1);
        Check.due("11: type(5, 49)", x.type(5, 49), -1);
        Check.due("11: type(5, 50)", x.type(5, 50), 1);
        Check.due("11: go(0)", x.go(0), true);
        Check.dueOut(x, 1, 1, 50);
    }

    private static void outWithinBounds() {
        KeyPlan x = busy.make();
        Check.due("12: out(0, 0)", Check.out(x, 0, 0), 3);
        Check.due("12: out(0, 1)", Check.out(x, 0, 1), 2);
        for (int i : Check.outside(0, 0)) {
            busy.dueAndSame("12: of one, out(" + i + ", 0)", y -> Check.out(y, i, 0), Check.THREW);
            busy.dueAndSame("12: of one, out(" + i + ", 1)", y -> Check.out(y, i, 1), Check.THREW);
        }
        for (int what : Check.outside(0, 1)) {
            busy.dueAndSame("12: out(0, " + what + ")", y -> Check.out(y, 0, what), Check.THREW);
            busy.dueAndSame("12: out(1, " + what + ")", y -> Check.out(y, 1, what), Check.THREW);
        }
        Check.due("12: just that exception", thrown(x, 1, 0) == NoSuchElementException.class, true);
        Check.due("12: and for another what", thrown(x, 0, 2) == NoSuchElementException.class, true);
    }

    private static Class<?> thrown(KeyPlan x, int i, int what) {
        try {
            x.out(i, what);
            return null;
        } catch (RuntimeException e) {
            return e.getClass();
        }
    }

    private static void outOfNone() {
        for (int i : new int[] {-1, 0, 1, 399, 400, Integer.MIN_VALUE, Integer.MAX_VALUE}) {
            fresh.dueAndSame("12: of none, out(" + i + ", 0)", x -> Check.out(x, i, 0), Check.THREW);
            fresh.dueAndSame("12: of none, out(" + i + ", 1)", x -> Check.out(x, i, 1), Check.THREW);
        }
    }

    private static KeyPlan typed(int commands) {
        KeyPlan x = new KeyPlan();
        x.bind(0, 5, 1);
        x.bind(0, 6, 39);
        for (int i = 0; i < commands; i++) {
            x.type(i == 399 ? 6 : 5, 2 * i);
        }
        return x;
    }

    private static void the400thIsKept() {
        KeyPlan x = typed(399);
        Check.dueOut(x, 398, 1, 2 * 398);
        Check.due("12: of 399, out(399, 0)", Check.out(x, 399, 0), Check.THREW);
        KeyPlan y = typed(400);
        Check.due("28: 400 went out", y.count(3), 400);
        Check.dueOut(y, 0, 1, 0);
        Check.dueOut(y, 399, 39, 2 * 399);
        Check.due("12: of 400, out(400, 0)", Check.out(y, 400, 0), Check.THREW);
        Check.due("12: of 400, out(399, 2)", Check.out(y, 399, 2), Check.THREW);
        Check.due("12: of 400, out(399, -1)", Check.out(y, 399, -1), Check.THREW);
    }

    private static void the401stIsNot() {
        KeyPlan x = typed(401);
        Check.due("28: 401 went out", x.count(3), 401);
        Check.dueOut(x, 0, 1, 0);
        Check.dueOut(x, 399, 39, 2 * 399);
        Check.due("12: of 401, out(400, 0)", Check.out(x, 400, 0), Check.THREW);
        Check.due("12: of 401, out(400, 1)", Check.out(x, 400, 1), Check.THREW);
        typedMuch.dueAndSame("12: of 401, out(400, 0)", y -> Check.out(y, 400, 0), Check.THREW);
        typedMuch.dueAndSame("12: of 401, out(401, 0)", y -> Check.out(y, 401, 0), Check.THREW);
        typedMuch.dueAndSame("12: of 401, out(-1, 0)", y -> Check.out(y, -1, 0), Check.THREW);
        KeyPlan y = typedMuch.make();
        y.bind(0, 240, 3);
        Check.due("11: the 402nd is told by settle", y.settle(402), 1);
        Check.due("28: 402 went out", y.count(3), 402);
        Check.due("12: it is not kept", Check.out(y, 401, 0), Check.THREW);
    }

    /** An object stands 512 calls. */
    private static void theLastCallsOfAll() {
        KeyPlan x = new KeyPlan();
        x.bind(0, 5, 1);
        for (int i = 0; i < 510; i++) {
            Check.due("call " + (i + 2), x.type(5, i), 0);
        }
        Check.due("the 512th call", x.count(3), 510);
        KeyPlan y = new KeyPlan();
        for (int i = 0; i < 511; i++) {
            Check.due("call " + (i + 1), y.type(240, LAST_TICK), 0);
        }
        Check.due("the 512th call", y.count(4), 511);
        KeyPlan z = new KeyPlan();
        for (int i = 0; i < 510; i++) {
            Check.due("call " + (i + 1), z.bind(0, i % 2 == 0 ? 5 : PAIR, i % 40), i < 2 ? -1 : (i - 2) % 40);
        }
        Check.due("the 511th call", z.has(0, 5), 508 % 40);
        Check.due("the 512th call", z.has(0, PAIR), 509 % 40);
    }
}
