import java.util.NoSuchElementException;

/**
 * A planner of shortcuts over contexts that stand in one another. The words used here (context, stroke,
 * row, map, fight, settle, live, ...) are those of the document's 'Terms'.
 */
public final class KeyPlan {
    public static final int NONE = -1;
    public static final int FREE = 40;

    private static final int REFUSED = -2;
    private static final int MOST_CONTEXTS = 12;
    private static final int MOST_BOUND = 120;
    private static final int COMMANDS = 40;
    private static final int STROKES = 240;
    private static final int ROW_STROKES = 3;
    private static final int STROKE_BITS = 8;
    private static final int STROKE_MASK = 255;
    private static final int ROW_BITS = 24;
    private static final int ROW_MASK = (1 << ROW_BITS) - 1;
    private static final int FIRST_PATIENCE = 10;
    private static final int MOST_PATIENCE = 100;
    private static final int LAST_TICK = 1_000_000;
    private static final int MOST_KEPT_OUT = 400;
    private static final int FIRST_STRETCH = 10;
    private static final int MOST_STRETCH = 100;
    private static final int FIRST_USES = 1;
    private static final int MOST_USES = 1_000;
    private static final int MOST_WEIGHT = 10_000;
    private static final int MOST_WANTED = 6;
    private static final int MOST_OFFERED = 8;
    private static final int UNLEARNT_STRETCH = 30;

    private final Layout layout;
    private final Bindings kept;
    private final int[] changedKeys;
    private final Fights fightList;
    private final Typing typing;
    private final Costs costs;
    private final Assigning assigning;
    private final Learning learning;

    public KeyPlan() {
        layout = new Layout();
        kept = new Bindings();
        changedKeys = new int[2 * MOST_BOUND];
        fightList = new Fights();
        typing = new Typing();
        costs = new Costs();
        assigning = new Assigning();
        learning = new Learning();
    }

    public int context(int outside) {
        return layout.contexts.add(outside);
    }

    public int bind(int context, int row, int command) {
        if (!layout.contexts.hold(context) || !Row.isRow(row) || command < NONE || command > FREE) {
            return REFUSED;
        }
        int key = Bindings.key(context, row);
        int had = layout.map.at(key);
        if (command != NONE && had == NONE && layout.map.size >= MOST_BOUND) {
            return REFUSED;
        }
        layout.map.put(key, command);
        return had;
    }

    public int has(int context, int row) {
        if (!layout.contexts.hold(context) || !Row.isRow(row)) {
            return NONE;
        }
        return layout.map.at(Bindings.key(context, row));
    }

    public int means(int context, int row) {
        if (!layout.contexts.hold(context) || !Row.isRow(row)) {
            return NONE;
        }
        return layout.meaning(context, row);
    }

    public int fight(int context, int i, int what) {
        if (!layout.contexts.hold(context)) {
            return NONE;
        }
        fightList.collect(layout, context);
        if (i < 0 || i >= fightList.size) {
            return NONE;
        }
        switch (what) {
            case 0: return fightList.firsts[i];
            case 1: return fightList.seconds[i];
            default: return NONE;
        }
    }

    public int fights(int context) {
        if (!layout.contexts.hold(context)) {
            return NONE;
        }
        fightList.collect(layout, context);
        return fightList.size;
    }

    public boolean patience(int ticks) {
        if (ticks < 0 || ticks > MOST_PATIENCE) {
            return false;
        }
        typing.patienceTicks = ticks;
        return true;
    }

    public boolean go(int context) {
        if (!layout.contexts.hold(context)) {
            return false;
        }
        typing.settleAll(layout, typing.lastTick);
        typing.here = context;
        return true;
    }

    public int type(int stroke, int tick) {
        if (!Row.isStroke(stroke) || !typing.mayComeAt(tick)) {
            return NONE;
        }
        typing.press(layout, stroke, tick);
        return Row.length(typing.waiting);
    }

    public int settle(int tick) {
        if (!typing.mayComeAt(tick)) {
            return NONE;
        }
        int before = typing.outCount;
        typing.settleAll(layout, tick);
        return typing.outCount - before;
    }

    public int out(int i, int what) throws NoSuchElementException {
        if (i < 0 || i >= typing.outCount || i >= MOST_KEPT_OUT) {
            throw new NoSuchElementException("no such command went out");
        }
        switch (what) {
            case 0: return typing.outCommands[i];
            case 1: return typing.outTicks[i];
            default: throw new NoSuchElementException("what is 0 or 1");
        }
    }

    public boolean stretch(int stroke, int price) {
        if (!Row.isStroke(stroke) || price < 0 || price > MOST_STRETCH) {
            return false;
        }
        costs.stretches[stroke] = price;
        assigning.forget();
        return true;
    }

    public boolean uses(int command, int n) {
        if (!isCommand(command) || n < 0 || n > MOST_USES) {
            return false;
        }
        costs.useCounts[command] = n;
        assigning.forget();
        return true;
    }

    public boolean habit(int command, int stroke, int weight) {
        boolean strokeOrNone = stroke == 0 || Row.isStroke(stroke);
        if (!isCommand(command) || !strokeOrNone || weight < 0 || weight > MOST_WEIGHT) {
            return false;
        }
        costs.habitStrokes[command] = stroke;
        costs.habitWeights[command] = weight;
        assigning.forget();
        return true;
    }

    public int want(int command, int context) {
        if (!isCommand(command) || !layout.contexts.hold(context)) {
            return NONE;
        }
        return assigning.addWanted(command, context);
    }

    public int offer(int stroke) {
        if (!Row.isStroke(stroke)) {
            return NONE;
        }
        return assigning.addOffered(stroke);
    }

    public void clear() {
        assigning.empty();
    }

    public int cheapest() {
        assigning.solve(costs, layout.contexts);
        return assigning.bestSum;
    }

    public int assigned(int i) {
        assigning.solve(costs, layout.contexts);
        if (assigning.bestSum == NONE || i < 0 || i >= assigning.wantedCount) {
            return NONE;
        }
        return assigning.bestStrokes[i];
    }

    public int broken() {
        assigning.solve(costs, layout.contexts);
        return assigning.bestSum == NONE ? NONE : assigning.brokenHabits(costs);
    }

    public int apply() {
        assigning.solve(costs, layout.contexts);
        if (assigning.bestSum == NONE) {
            return NONE;
        }
        int more = 0;
        int other = 0;
        for (int i = 0; i < assigning.wantedCount; i++) {
            int had = layout.map.at(assigning.bestKey(i));
            more += had == NONE ? 1 : 0;
            other += had == assigning.wantedCommands[i] ? 0 : 1;
        }
        if (layout.map.size + more > MOST_BOUND) {
            return NONE;
        }
        for (int i = 0; i < assigning.wantedCount; i++) {
            layout.map.put(assigning.bestKey(i), assigning.wantedCommands[i]);
        }
        return other;
    }

    public void keep() {
        kept.copyFrom(layout.map);
    }

    public int change(int i, int what) {
        int changes = layout.map.differences(kept, changedKeys);
        if (i < 0 || i >= changes) {
            return NONE;
        }
        int key = changedKeys[i];
        switch (what) {
            case 0: return Bindings.contextOf(key);
            case 1: return Bindings.rowOf(key);
            case 2: return kept.at(key);
            case 3: return layout.map.at(key);
            default: return NONE;
        }
    }

    public int back() {
        int changes = layout.map.differences(kept, changedKeys);
        layout.map.copyFrom(kept);
        return changes;
    }

    public int learn(int i) {
        learning.weigh(layout.map, costs);
        return learning.ranked(i);
    }

    public int saves(int command) {
        if (!isCommand(command)) {
            return 0;
        }
        learning.weigh(layout.map, costs);
        return learning.savings[command];
    }

    public int count(int what) {
        switch (what) {
            case 0: return layout.contexts.size;
            case 1: return layout.map.size;
            case 2: return Row.length(typing.waiting);
            case 3: return typing.outCount;
            case 4: return typing.lostCount;
            case 5: return assigning.wantedCount;
            case 6: return assigning.offeredCount;
            case 7: return typing.here;
            case 8: return layout.map.differences(kept, changedKeys);
            default: return NONE;
        }
    }

    private static boolean isCommand(int command) {
        return command >= 0 && command < COMMANDS;
    }

    /** Rows as the document tells them: numbers, the first stroke lowest. 0 stands for a line without strokes. */
    private static final class Row {
        static boolean isStroke(int stroke) {
            return stroke >= 1 && stroke <= STROKES;
        }

        static boolean isRow(int row) {
            if (row < 1 || row > ROW_MASK) {
                return false;
            }
            int second = strokeAt(row, 1);
            int third = strokeAt(row, 2);
            boolean noGap = second != 0 || third == 0;
            return isStroke(strokeAt(row, 0)) && second <= STROKES && third <= STROKES && noGap;
        }

        static int strokeAt(int row, int i) {
            return (row >>> (STROKE_BITS * i)) & STROKE_MASK;
        }

        static int length(int row) {
            int length = 0;
            while (length < ROW_STROKES && strokeAt(row, length) != 0) {
                length++;
            }
            return length;
        }

        static int beginning(int row, int length) {
            return row & ((1 << (STROKE_BITS * length)) - 1);
        }

        static int withoutBeginning(int row, int length) {
            return row >>> (STROKE_BITS * length);
        }

        static int withStroke(int row, int stroke) {
            return row | (stroke << (STROKE_BITS * length(row)));
        }

        static boolean beginsWith(int row, int line) {
            return beginning(row, length(line)) == line;
        }
    }

    /** A map. Its places are in order by context, then row: a key has the context above the row's bits. */
    private static final class Bindings {
        private final int[] keys;
        private final int[] commands;
        private int size;

        Bindings() {
            keys = new int[MOST_BOUND];
            commands = new int[MOST_BOUND];
            size = 0;
        }

        static int key(int context, int row) {
            return (context << ROW_BITS) | row;
        }

        static int contextOf(int key) {
            return key >>> ROW_BITS;
        }

        static int rowOf(int key) {
            return key & ROW_MASK;
        }

        /** Where a key is, or where it would be put. */
        private int place(int key) {
            int low = 0;
            int high = size;
            for (int steps = 0; steps < MOST_BOUND && low < high; steps++) {
                int middle = (low + high) >>> 1;
                if (keys[middle] < key) {
                    low = middle + 1;
                } else {
                    high = middle;
                }
            }
            return low;
        }

        private boolean isAt(int place, int key) {
            return place < size && keys[place] == key;
        }

        int at(int key) {
            int place = place(key);
            return isAt(place, key) ? commands[place] : NONE;
        }

        /** Callers see to it that there is room; a full map leaves a new key out. */
        void put(int key, int command) {
            int place = place(key);
            boolean present = isAt(place, key);
            if (command == NONE) {
                if (present) {
                    closeGap(place);
                }
                return;
            }
            if (!present) {
                if (size >= MOST_BOUND) {
                    return;
                }
                openGap(place);
                keys[place] = key;
            }
            commands[place] = command;
        }

        private void openGap(int place) {
            for (int i = size; i > place; i--) {
                keys[i] = keys[i - 1];
                commands[i] = commands[i - 1];
            }
            size++;
        }

        private void closeGap(int place) {
            size--;
            for (int i = place; i < size; i++) {
                keys[i] = keys[i + 1];
                commands[i] = commands[i + 1];
            }
        }

        void copyFrom(Bindings other) {
            for (int i = 0; i < other.size; i++) {
                keys[i] = other.keys[i];
                commands[i] = other.commands[i];
            }
            size = other.size;
        }

        /** Writes the keys that two maps have otherwise, in order, into a row of twice a map's room: how many. */
        int differences(Bindings older, int[] into) {
            int found = 0;
            int mine = 0;
            int theirs = 0;
            int most = size + older.size;
            for (int steps = 0; steps < most && (mine < size || theirs < older.size); steps++) {
                boolean hasMine = mine < size && (theirs >= older.size || keys[mine] <= older.keys[theirs]);
                boolean hasTheirs = theirs < older.size && (mine >= size || older.keys[theirs] <= keys[mine]);
                boolean alike = hasMine && hasTheirs && commands[mine] == older.commands[theirs];
                if (!alike && found < into.length) {
                    into[found] = hasMine ? keys[mine] : older.keys[theirs];
                    found++;
                }
                mine += hasMine ? 1 : 0;
                theirs += hasTheirs ? 1 : 0;
            }
            return found;
        }
    }

    /** Which context stands in which. */
    private static final class Contexts {
        private final int[] outsides;
        private int size;

        Contexts() {
            outsides = new int[MOST_CONTEXTS];
            outsides[0] = NONE;
            size = 1;
        }

        boolean hold(int context) {
            return context >= 0 && context < size;
        }

        int add(int outside) {
            if (!hold(outside) || size >= MOST_CONTEXTS) {
                return NONE;
            }
            outsides[size] = outside;
            size++;
            return size - 1;
        }

        /** The one outside; NONE outside 0, where a walk outwards ends. */
        int outsideOf(int context) {
            return hold(context) ? outsides[context] : NONE;
        }

        boolean meet(int one, int other) {
            return isWithin(one, other) || isWithin(other, one);
        }

        private boolean isWithin(int inner, int outer) {
            int at = inner;
            for (int steps = 0; steps < MOST_CONTEXTS && at != NONE; steps++) {
                if (at == outer) {
                    return true;
                }
                at = outsideOf(at);
            }
            return false;
        }
    }

    /** The contexts and the map over them: what rows mean. */
    private static final class Layout {
        private final Contexts contexts;
        private final Bindings map;

        Layout() {
            contexts = new Contexts();
            map = new Bindings();
        }

        int meaning(int context, int row) {
            int at = context;
            for (int steps = 0; steps < MOST_CONTEXTS && at != NONE; steps++) {
                int command = map.at(Bindings.key(at, row));
                if (command != NONE) {
                    return command == FREE ? NONE : command;
                }
                at = contexts.outsideOf(at);
            }
            return NONE;
        }

        boolean isLive(int context, int line) {
            return meaning(context, line) != NONE || opensLonger(context, line);
        }

        boolean opensLonger(int context, int line) {
            for (int i = 0; i < map.size; i++) {
                int row = Bindings.rowOf(map.keys[i]);
                if (row != line && Row.beginsWith(row, line) && meaning(context, row) != NONE) {
                    return true;
                }
            }
            return false;
        }

        /** Writes the rows that mean something in a context, in order as numbers, each once: how many. */
        int meaningRows(int context, int[] into) {
            int found = 0;
            for (int i = 0; i < map.size; i++) {
                int row = Bindings.rowOf(map.keys[i]);
                if (meaning(context, row) != NONE) {
                    found = insertOnce(into, found, row);
                }
            }
            return found;
        }

        /** Several contexts may have one row, so it may be there: how many there are then. */
        private static int insertOnce(int[] rows, int filled, int row) {
            int place = 0;
            while (place < filled && rows[place] < row) {
                place++;
            }
            boolean present = place < filled && rows[place] == row;
            if (present || filled >= rows.length) {
                return filled;
            }
            for (int i = filled; i > place; i--) {
                rows[i] = rows[i - 1];
            }
            rows[place] = row;
            return filled + 1;
        }
    }

    /** The fights of the context that was collected last. */
    private static final class Fights {
        private final int[] rows;
        private final int[] firsts;
        private final int[] seconds;
        private int size;

        Fights() {
            rows = new int[MOST_BOUND];
            // a row of three strokes has two beginnings, a shorter one fewer
            firsts = new int[(ROW_STROKES - 1) * MOST_BOUND];
            seconds = new int[(ROW_STROKES - 1) * MOST_BOUND];
            size = 0;
        }

        void collect(Layout layout, int context) {
            int found = layout.meaningRows(context, rows);
            size = 0;
            for (int first = 0; first < found; first++) {
                // a longer row is a greater number
                for (int second = first + 1; second < found; second++) {
                    if (Row.beginsWith(rows[second], rows[first])) {
                        add(rows[first], rows[second]);
                    }
                }
            }
        }

        private void add(int first, int second) {
            if (size < firsts.length) {
                firsts[size] = first;
                seconds[size] = second;
                size++;
            }
        }
    }

    /** Strokes typed and what became of them. */
    private static final class Typing {
        private final int[] outCommands;
        private final int[] outTicks;
        private int outCount;
        private int lostCount;
        private int here;
        private int patienceTicks;
        private int lastTick;
        // a live line of three is a row and done at once: two wait between calls at most, and one more fits a row
        private int waiting;

        Typing() {
            outCommands = new int[MOST_KEPT_OUT];
            outTicks = new int[MOST_KEPT_OUT];
            outCount = 0;
            lostCount = 0;
            here = 0;
            patienceTicks = FIRST_PATIENCE;
            lastTick = 0;
            waiting = 0;
        }

        boolean mayComeAt(int tick) {
            return tick >= lastTick && tick <= LAST_TICK;
        }

        void press(Layout layout, int stroke, int tick) {
            if (tick - lastTick > patienceTicks) {
                settleAll(layout, lastTick + patienceTicks);
            }
            lastTick = tick;
            waiting = Row.withStroke(waiting, stroke);
            for (int steps = 0; steps < ROW_STROKES && waiting != 0 && !layout.isLive(here, waiting); steps++) {
                settleOne(layout, tick);
            }
            boolean isRow = waiting != 0 && layout.meaning(here, waiting) != NONE;
            if (isRow && !layout.opensLonger(here, waiting)) {
                settleOne(layout, tick);
            }
        }

        void settleAll(Layout layout, int tick) {
            for (int steps = 0; steps < ROW_STROKES && waiting != 0; steps++) {
                settleOne(layout, tick);
            }
        }

        private void settleOne(Layout layout, int tick) {
            for (int length = Row.length(waiting); length > 0; length--) {
                int command = layout.meaning(here, Row.beginning(waiting, length));
                if (command != NONE) {
                    send(command, tick);
                    waiting = Row.withoutBeginning(waiting, length);
                    return;
                }
            }
            lostCount++;
            waiting = Row.withoutBeginning(waiting, 1);
        }

        private void send(int command, int tick) {
            if (outCount < MOST_KEPT_OUT) {
                outCommands[outCount] = command;
                outTicks[outCount] = tick;
            }
            outCount++;
        }
    }

    /** Stretches, uses and habits. */
    private static final class Costs {
        private final int[] stretches;
        private final int[] useCounts;
        private final int[] habitStrokes;
        private final int[] habitWeights;

        Costs() {
            stretches = new int[STROKES + 1];
            for (int stroke = 1; stroke <= STROKES; stroke++) {
                stretches[stroke] = FIRST_STRETCH;
            }
            useCounts = new int[COMMANDS];
            for (int command = 0; command < COMMANDS; command++) {
                useCounts[command] = FIRST_USES;
            }
            habitStrokes = new int[COMMANDS];
            habitWeights = new int[COMMANDS];
        }

        boolean breaksHabit(int command, int stroke) {
            return habitStrokes[command] != 0 && habitStrokes[command] != stroke;
        }

        int price(int command, int stroke) {
            int weight = breaksHabit(command, stroke) ? habitWeights[command] : 0;
            return useCounts[command] * stretches[stroke] + weight;
        }

        int rowStretch(int row) {
            int sum = 0;
            for (int i = 0; i < Row.length(row); i++) {
                int stroke = Row.strokeAt(row, i);
                sum += Row.isStroke(stroke) ? stretches[stroke] : 0;
            }
            return sum;
        }
    }

    /** What is wanted and offered, and the cheapest assignment, looked for anew only behind a change. */
    private static final class Assigning {
        private final int[] wantedCommands;
        private final int[] wantedContexts;
        private int wantedCount;
        private final int[] offeredStrokes;
        private int offeredCount;
        private boolean solved;
        private int bestSum;
        private final int[] bestStrokes;
        private final int[] trial;
        private final int[][] prices;
        private final int[] leastFrom;
        private final boolean[] meets;

        Assigning() {
            wantedCommands = new int[MOST_WANTED];
            wantedContexts = new int[MOST_WANTED];
            wantedCount = 0;
            offeredStrokes = new int[MOST_OFFERED];
            offeredCount = 0;
            solved = false;
            bestSum = NONE;
            bestStrokes = new int[MOST_WANTED];
            trial = new int[MOST_WANTED];
            prices = new int[MOST_WANTED][MOST_OFFERED];
            leastFrom = new int[MOST_WANTED + 1];
            meets = new boolean[MOST_WANTED * MOST_WANTED];
        }

        void forget() {
            solved = false;
        }

        void empty() {
            wantedCount = 0;
            offeredCount = 0;
            forget();
        }

        int addWanted(int command, int context) {
            if (wantedCount >= MOST_WANTED || isAmong(wantedCommands, wantedCount, command)) {
                return NONE;
            }
            wantedCommands[wantedCount] = command;
            wantedContexts[wantedCount] = context;
            wantedCount++;
            forget();
            return wantedCount;
        }

        int addOffered(int stroke) {
            if (offeredCount >= MOST_OFFERED || isAmong(offeredStrokes, offeredCount, stroke)) {
                return NONE;
            }
            offeredStrokes[offeredCount] = stroke;
            offeredCount++;
            forget();
            return offeredCount;
        }

        private static boolean isAmong(int[] numbers, int filled, int number) {
            for (int i = 0; i < filled; i++) {
                if (numbers[i] == number) {
                    return true;
                }
            }
            return false;
        }

        void solve(Costs costs, Contexts contexts) {
            if (solved) {
                return;
            }
            prepare(costs, contexts);
            bestSum = NONE;
            giveFrom(0, 0);
            solved = true;
        }

        private void prepare(Costs costs, Contexts contexts) {
            leastFrom[wantedCount] = 0;
            for (int i = wantedCount - 1; i >= 0; i--) {
                int least = 0;
                for (int s = 0; s < offeredCount; s++) {
                    prices[i][s] = costs.price(wantedCommands[i], offeredStrokes[s]);
                    least = s == 0 ? prices[i][s] : Math.min(least, prices[i][s]);
                }
                leastFrom[i] = leastFrom[i + 1] + least;
                for (int j = 0; j < i; j++) {
                    meets[i * MOST_WANTED + j] = contexts.meet(wantedContexts[i], wantedContexts[j]);
                }
            }
        }

        /**
         * Tries strokes for the i-th wanted one and those behind it. As strokes are tried in the order in which
         * they were offered, and only a lower sum takes the place of another, the first of alike ones stays.
         */
        private void giveFrom(int i, int sum) {
            if (i >= wantedCount) {
                remember(sum);
                return;
            }
            for (int s = 0; s < offeredCount; s++) {
                int next = sum + prices[i][s];
                boolean promising = bestSum == NONE || next + leastFrom[i + 1] < bestSum;
                if (promising && isUntaken(i, s)) {
                    trial[i] = s;
                    giveFrom(i + 1, next);
                }
            }
        }

        private boolean isUntaken(int i, int s) {
            for (int j = 0; j < i; j++) {
                if (trial[j] == s && meets[i * MOST_WANTED + j]) {
                    return false;
                }
            }
            return true;
        }

        private void remember(int sum) {
            bestSum = sum;
            for (int i = 0; i < wantedCount; i++) {
                bestStrokes[i] = offeredStrokes[trial[i]];
            }
        }

        int brokenHabits(Costs costs) {
            int broken = 0;
            for (int i = 0; i < wantedCount; i++) {
                broken += costs.breaksHabit(wantedCommands[i], bestStrokes[i]) ? 1 : 0;
            }
            return broken;
        }

        /** The place in the map that the cheapest assignment gives the i-th wanted one: a row of its stroke alone. */
        int bestKey(int i) {
            return Bindings.key(wantedContexts[i], bestStrokes[i]);
        }
    }

    /** What each command would save; 0 for one that there is nothing to learn of. */
    private static final class Learning {
        private final int[] savings;

        Learning() {
            savings = new int[COMMANDS];
        }

        void weigh(Bindings map, Costs costs) {
            for (int command = 0; command < COMMANDS; command++) {
                savings[command] = 0;
            }
            for (int i = 0; i < map.size; i++) {
                int command = map.commands[i];
                if (isCommand(command)) {
                    int spared = UNLEARNT_STRETCH - costs.rowStretch(Bindings.rowOf(map.keys[i]));
                    // the least stretch saves most, and what saves nothing counts as 0
                    savings[command] = Math.max(savings[command], costs.useCounts[command] * spared);
                }
            }
        }

        int ranked(int rank) {
            for (int command = 0; command < COMMANDS; command++) {
                if (savings[command] > 0 && countAhead(command) == rank) {
                    return command;
                }
            }
            return NONE;
        }

        private int countAhead(int command) {
            int ahead = 0;
            for (int other = 0; other < COMMANDS; other++) {
                boolean alikeAndLower = savings[other] == savings[command] && other < command;
                ahead += savings[other] > savings[command] || alikeAndLower ? 1 : 0;
            }
            return ahead;
        }
    }
}
