import java.util.ArrayList;
import java.util.Arrays;
import java.util.Collections;
import java.util.Comparator;
import java.util.List;
import java.util.Map;
import java.util.TreeMap;
import java.util.TreeSet;

/** The document's words once more, as plainly and slowly as can be: what ModelTest compares KeyPlan with. */
final class Model {
    private final List<Integer> outsides = new ArrayList<>(List.of(-1));
    private final List<TreeMap<Integer, Integer>> map = new ArrayList<>(List.of(new TreeMap<>()));
    private List<TreeMap<Integer, Integer>> kept = new ArrayList<>();
    private int here = 0;
    private int patience = 10;
    private int last = 0;
    private int lost = 0;
    private List<Integer> waiting = new ArrayList<>();
    private final List<int[]> outs = new ArrayList<>();
    private final Map<Integer, Integer> stretches = new TreeMap<>();
    private final Map<Integer, Integer> uses = new TreeMap<>();
    private final Map<Integer, int[]> habits = new TreeMap<>();
    private final List<int[]> wanted = new ArrayList<>();
    private final List<Integer> offered = new ArrayList<>();

    private static boolean within(int number, int least, int most) {
        return number >= least && number <= most;
    }

    private boolean isContext(int context) {
        return within(context, 0, outsides.size() - 1);
    }

    /** The strokes of a row's number; null if it is none. */
    private static List<Integer> strokes(int row) {
        if (row <= 0) {
            return null;
        }
        List<Integer> line = new ArrayList<>();
        for (int rest = row; rest > 0; rest /= 256) {
            line.add(rest % 256);
        }
        boolean good = line.size() <= 3;
        for (int stroke : line) {
            good = good && within(stroke, 1, 240);
        }
        return good ? line : null;
    }

    private static int number(List<Integer> line) {
        int row = 0;
        for (int i = line.size() - 1; i >= 0; i--) {
            row = 256 * row + line.get(i);
        }
        return row;
    }

    private static boolean begins(List<Integer> first, List<Integer> second) {
        return first.size() <= second.size() && second.subList(0, first.size()).equals(first);
    }

    private int size() {
        int size = 0;
        for (Map<Integer, Integer> one : map) {
            size += one.size();
        }
        return size;
    }

    int context(int outside) {
        if (!isContext(outside) || outsides.size() == 12) {
            return -1;
        }
        outsides.add(outside);
        map.add(new TreeMap<>());
        return outsides.size() - 1;
    }

    int bind(int context, int row, int command) {
        if (!isContext(context) || strokes(row) == null || !within(command, -1, 40)) {
            return -2;
        }
        int had = map.get(context).getOrDefault(row, -1);
        if (command == -1) {
            map.get(context).remove(row);
        } else if (had == -1 && size() == 120) {
            return -2;
        } else {
            map.get(context).put(row, command);
        }
        return had;
    }

    int has(int context, int row) {
        return isContext(context) ? map.get(context).getOrDefault(row, -1) : -1;
    }

    int means(int context, int row) {
        if (!isContext(context)) {
            return -1;
        }
        for (int at = context; at != -1; at = outsides.get(at)) {
            if (map.get(at).containsKey(row)) {
                int command = map.get(at).get(row);
                return command == 40 ? -1 : command;
            }
        }
        return -1;
    }

    private List<Integer> meaningRows(int context) {
        TreeSet<Integer> rows = new TreeSet<>();
        for (Map<Integer, Integer> one : map) {
            for (int row : one.keySet()) {
                if (means(context, row) != -1) {
                    rows.add(row);
                }
            }
        }
        return new ArrayList<>(rows);
    }

    private List<int[]> fightList(int context) {
        List<int[]> list = new ArrayList<>();
        for (int first : meaningRows(context)) {
            for (int second : meaningRows(context)) {
                if (first != second && begins(strokes(first), strokes(second))) {
                    list.add(new int[] {first, second});
                }
            }
        }
        return list;
    }

    int fight(int context, int i, int what) {
        if (!isContext(context) || !within(i, 0, fightList(context).size() - 1) || !within(what, 0, 1)) {
            return -1;
        }
        return fightList(context).get(i)[what];
    }

    int fights(int context) {
        return isContext(context) ? fightList(context).size() : -1;
    }

    boolean patience(int ticks) {
        if (!within(ticks, 0, 100)) {
            return false;
        }
        patience = ticks;
        return true;
    }

    private boolean live() {
        for (int row : meaningRows(here)) {
            if (begins(waiting, strokes(row))) {
                return true;
            }
        }
        return false;
    }

    private void settleStep(int tick) {
        int longest = 0;
        for (int row : meaningRows(here)) {
            if (begins(strokes(row), waiting)) {
                longest = Math.max(longest, strokes(row).size());
            }
        }
        if (longest == 0) {
            lost++;
            longest = 1;
        } else {
            outs.add(new int[] {means(here, number(waiting.subList(0, longest))), tick});
        }
        waiting = new ArrayList<>(waiting.subList(longest, waiting.size()));
    }

    private void settleWhatWaits(int tick) {
        while (!waiting.isEmpty()) {
            settleStep(tick);
        }
    }

    boolean go(int context) {
        if (!isContext(context)) {
            return false;
        }
        settleWhatWaits(last);
        here = context;
        return true;
    }

    int type(int stroke, int tick) {
        if (!within(stroke, 1, 240) || !within(tick, last, 1_000_000)) {
            return -1;
        }
        if (tick > last + patience) {
            settleWhatWaits(last + patience);
        }
        last = tick;
        waiting.add(stroke);
        while (!waiting.isEmpty() && !live()) {
            settleStep(tick);
        }
        boolean longer = false;
        for (int row : meaningRows(here)) {
            longer = longer || begins(waiting, strokes(row)) && strokes(row).size() > waiting.size();
        }
        if (!waiting.isEmpty() && means(here, number(waiting)) != -1 && !longer) {
            outs.add(new int[] {means(here, number(waiting)), tick});
            waiting.clear();
        }
        return waiting.size();
    }

    int settle(int tick) {
        if (!within(tick, last, 1_000_000)) {
            return -1;
        }
        int before = outs.size();
        settleWhatWaits(tick);
        return outs.size() - before;
    }

    long out(int i, int what) {
        boolean there = within(i, 0, Math.min(400, outs.size()) - 1) && within(what, 0, 1);
        return there ? outs.get(i)[what] : Check.THREW;
    }

    boolean stretch(int stroke, int price) {
        boolean good = within(stroke, 1, 240) && within(price, 0, 100);
        if (good) {
            stretches.put(stroke, price);
        }
        return good;
    }

    boolean uses(int command, int n) {
        boolean good = within(command, 0, 39) && within(n, 0, 1000);
        if (good) {
            uses.put(command, n);
        }
        return good;
    }

    boolean habit(int command, int stroke, int weight) {
        boolean good = within(command, 0, 39) && within(stroke, 0, 240) && within(weight, 0, 10_000);
        if (good) {
            habits.put(command, new int[] {stroke, weight});
        }
        return good;
    }

    int want(int command, int context) {
        boolean good = within(command, 0, 39) && isContext(context) && wanted.size() < 6;
        for (int[] one : wanted) {
            good = good && one[0] != command;
        }
        if (!good) {
            return -1;
        }
        wanted.add(new int[] {command, context});
        return wanted.size();
    }

    int offer(int stroke) {
        if (!within(stroke, 1, 240) || offered.contains(stroke) || offered.size() == 8) {
            return -1;
        }
        offered.add(stroke);
        return offered.size();
    }

    void clear() {
        wanted.clear();
        offered.clear();
    }

    private boolean breaks(int command, int stroke) {
        int[] habit = habits.getOrDefault(command, new int[2]);
        return habit[0] != 0 && habit[0] != stroke;
    }

    private int price(int command, int stroke) {
        int weight = breaks(command, stroke) ? habits.get(command)[1] : 0;
        return uses.getOrDefault(command, 1) * stretches.getOrDefault(stroke, 10) + weight;
    }

    private boolean standsIn(int inner, int outer) {
        return inner == outer || inner != -1 && standsIn(outsides.get(inner), outer);
    }

    private boolean clash(int i, int j) {
        return standsIn(wanted.get(i)[1], wanted.get(j)[1]) || standsIn(wanted.get(j)[1], wanted.get(i)[1]);
    }

    /** Every assignment there is, in order of the strokes as offered; the first cheapest, or null. */
    private int[] best() {
        int[] best = null;
        int bestSum = 0;
        int[] picks = new int[wanted.size()];
        for (long turn = 0; turn < Math.round(Math.pow(offered.size(), wanted.size())); turn++) {
            long rest = turn;
            for (int i = picks.length - 1; i >= 0; i--) {
                picks[i] = offered.get((int) (rest % offered.size()));
                rest /= offered.size();
            }
            int sum = allowed(picks) ? sum(picks) : -1;
            if (sum != -1 && (best == null || sum < bestSum)) {
                best = picks.clone();
                bestSum = sum;
            }
        }
        return best;
    }

    private boolean allowed(int[] picks) {
        for (int i = 0; i < picks.length; i++) {
            for (int j = 0; j < i; j++) {
                if (picks[i] == picks[j] && clash(i, j)) {
                    return false;
                }
            }
        }
        return true;
    }

    private int sum(int[] picks) {
        int sum = 0;
        for (int i = 0; i < picks.length; i++) {
            sum += price(wanted.get(i)[0], picks[i]);
        }
        return sum;
    }

    int cheapest() {
        int[] best = best();
        return best == null ? -1 : sum(best);
    }

    int assigned(int i) {
        int[] best = best();
        return best == null || !within(i, 0, best.length - 1) ? -1 : best[i];
    }

    int broken() {
        int[] best = best();
        int broken = 0;
        for (int i = 0; best != null && i < best.length; i++) {
            broken += breaks(wanted.get(i)[0], best[i]) ? 1 : 0;
        }
        return best == null ? -1 : broken;
    }

    int apply() {
        int[] best = best();
        if (best == null) {
            return -1;
        }
        List<TreeMap<Integer, Integer>> before = copy(map);
        int other = 0;
        for (int i = 0; i < best.length; i++) {
            Integer had = map.get(wanted.get(i)[1]).put(best[i], wanted.get(i)[0]);
            other += had != null && had == wanted.get(i)[0] ? 0 : 1;
        }
        if (size() > 120) {
            putBack(before);
            return -1;
        }
        return other;
    }

    private static List<TreeMap<Integer, Integer>> copy(List<TreeMap<Integer, Integer>> of) {
        List<TreeMap<Integer, Integer>> copy = new ArrayList<>();
        for (TreeMap<Integer, Integer> one : of) {
            copy.add(new TreeMap<>(one));
        }
        return copy;
    }

    private void putBack(List<TreeMap<Integer, Integer>> what) {
        List<TreeMap<Integer, Integer>> copy = copy(what);
        for (int context = 0; context < map.size(); context++) {
            map.set(context, context < copy.size() ? copy.get(context) : new TreeMap<>());
        }
    }

    void keep() {
        kept = copy(map);
    }

    private List<int[]> changes() {
        List<int[]> changes = new ArrayList<>();
        for (int context = 0; context < map.size(); context++) {
            Map<Integer, Integer> had = context < kept.size() ? kept.get(context) : new TreeMap<>();
            Map<Integer, Integer> has = map.get(context);
            TreeSet<Integer> rows = new TreeSet<>(had.keySet());
            rows.addAll(has.keySet());
            for (int row : rows) {
                int[] change = {context, row, had.getOrDefault(row, -1), has.getOrDefault(row, -1)};
                if (change[2] != change[3]) {
                    changes.add(change);
                }
            }
        }
        return changes;
    }

    int change(int i, int what) {
        return within(i, 0, changes().size() - 1) && within(what, 0, 3) ? changes().get(i)[what] : -1;
    }

    int back() {
        int changes = changes().size();
        putBack(kept);
        return changes;
    }

    int saves(int command) {
        int least = Integer.MAX_VALUE;
        for (Map<Integer, Integer> one : map) {
            for (Map.Entry<Integer, Integer> entry : one.entrySet()) {
                int sum = 0;
                for (int stroke : strokes(entry.getKey())) {
                    sum += stretches.getOrDefault(stroke, 10);
                }
                least = entry.getValue() == command ? Math.min(least, sum) : least;
            }
        }
        boolean among = within(command, 0, 39) && least < 30;
        return among ? uses.getOrDefault(command, 1) * (30 - least) : 0;
    }

    int learn(int i) {
        Integer[] commands = new Integer[40];
        Arrays.setAll(commands, command -> command);
        List<Integer> list = new ArrayList<>(Arrays.asList(commands));
        list.removeIf(command -> saves(command) <= 0);
        Collections.sort(list, Comparator.comparingInt((Integer command) -> -saves(command)));
        return within(i, 0, list.size() - 1) ? list.get(i) : -1;
    }

    int count(int what) {
        int[] counts = {outsides.size(), size(), waiting.size(), outs.size(), lost, wanted.size(), offered.size(),
            here, changes().size()};
        return within(what, 0, counts.length - 1) ? counts[what] : -1;
    }
}
