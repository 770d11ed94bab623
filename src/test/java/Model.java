import java.util.ArrayList;
import java.util.List;

/**
 * A second reading of the document that shares nothing with the class: it writes out every path of every body and
 * takes each rule as it says, path by path.
 */
final class Model {
    final List<List<String>> bodies = new ArrayList<>();
    private final List<List<List<Integer>>> paths = new ArrayList<>();
    final boolean[] balanced = new boolean[8];
    final int[] preserved = new int[8];
    final int[] sure = new int[8];
    final int[] arguments = new int[8];
    final int[] results = new int[8];
    final int[][] live = new int[8][15];
    /** Of each site: function, index, called function, passed slots, live behind. */
    final List<int[]> sites = new ArrayList<>();

    int steps;
    boolean cut;
    int[] registers;
    private int fresh;
    private int branches;
    private int choices;

    Model(String... texts) {
        for (String text : texts) {
            bodies.add(text.isEmpty() ? List.of() : List.of(text.split(";")));
        }
        for (int f = 0; f < 8; f++) {
            List<List<Integer>> all = new ArrayList<>();
            extend(f, new ArrayList<>(), 0, all);
            paths.add(all);
            balanced[f] = findBalance(f);
        }
        findPreserved();
        findSure();
        findLive();
        findSites();
    }

    char kind(int f, int i) {
        return bodies.get(f).get(i).charAt(0);
    }

    int first(int f, int i) {
        return bodies.get(f).get(i).charAt(1) - '0';
    }

    int second(int f, int i) {
        return bodies.get(f).get(i).charAt(2) - '0';
    }

    boolean reachable(int f, int i) {
        return paths.get(f).stream().anyMatch(path -> path.contains(i));
    }

    private void extend(int f, List<Integer> path, int i, List<List<Integer>> all) {
        if (i >= bodies.get(f).size()) {
            all.add(path);
            return;
        }
        List<Integer> longer = new ArrayList<>(path);
        longer.add(i);
        if (kind(f, i) == 'r') {
            all.add(longer);
            return;
        }
        extend(f, longer, i + 1, all);
        if (kind(f, i) == 'b') {
            extend(f, longer, i + 1 + first(f, i), all);
        }
    }

    private boolean findBalance(int f) {
        Integer[] depths = new Integer[15];
        for (List<Integer> path : paths.get(f)) {
            int depth = 0;
            for (int i : path) {
                if (depths[i] != null && depths[i] != depth) {
                    return false;
                }
                depths[i] = depth;
                depth += kind(f, i) == '+' ? 1 : kind(f, i) == '-' ? -1 : 0;
                if (depth < 0 || depth > 6) {
                    return false;
                }
            }
            if (depth != 0) {
                return false;
            }
        }
        return true;
    }

    private void findPreserved() {
        for (int f = 0; f < 8; f++) {
            preserved[f] = balanced[f] ? 255 : 0;
        }
        for (int round = 0; round < 70; round++) {
            int[] now = new int[8];
            for (int f = 0; f < 8; f++) {
                now[f] = balanced[f] ? 255 : 0;
                for (List<Integer> path : paths.get(f)) {
                    now[f] &= balanced[f] ? ownBehind(f, path) : 0;
                }
            }
            System.arraycopy(now, 0, preserved, 0, 8);
        }
    }

    private int ownBehind(int f, List<Integer> path) {
        int[] values = {0, 1, 2, 3, 4, 5, 6, 7};
        ArrayList<Integer> stack = new ArrayList<>();
        for (int i : path) {
            switch (kind(f, i)) {
                case 'd' -> values[first(f, i)] = -1;
                case 'm' -> values[first(f, i)] = values[second(f, i)];
                case '+' -> stack.add(values[first(f, i)]);
                case '-' -> values[first(f, i)] = stack.remove(stack.size() - 1);
                case 'c' -> {
                    for (int r = 0; r < 8; r++) {
                        values[r] = (preserved[first(f, i)] & 1 << r) != 0 ? values[r] : -1;
                    }
                }
                default -> { }
            }
        }
        int own = 0;
        for (int r = 0; r < 8; r++) {
            own |= values[r] == r ? 1 << r : 0;
        }
        return own;
    }

    private void findSure() {
        for (int round = 0; round < 70; round++) {
            int[] now = new int[8];
            for (int f = 0; f < 8; f++) {
                now[f] = 255;
                for (List<Integer> path : paths.get(f)) {
                    int written = 0;
                    for (int i : path) {
                        char kind = kind(f, i);
                        written |= kind == 'd' || kind == 'm' || kind == '-' ? 1 << first(f, i) : 0;
                        written |= kind == 'c' ? sure[first(f, i)] : 0;
                    }
                    now[f] &= written;
                }
            }
            System.arraycopy(now, 0, sure, 0, 8);
        }
    }

    private void findLive() {
        for (int round = 0; round < 140; round++) {
            int[] wanted = new int[8];
            for (int f = 0; f < 8; f++) {
                int atBegin = 0;
                for (List<Integer> path : paths.get(f)) {
                    int now = results[f];
                    for (int k = path.size() - 1; k >= 0; k--) {
                        int i = path.get(k);
                        char kind = kind(f, i);
                        if (kind == 'c') {
                            int callee = first(f, i);
                            wanted[callee] |= now;
                            now = now & preserved[callee] | arguments[callee];
                        } else if (kind == 'u') {
                            now |= 1 << first(f, i);
                        } else if (kind == 'd' || kind == '-') {
                            now &= ~(1 << first(f, i));
                        } else if (kind == 'm') {
                            now = now & ~(1 << first(f, i)) | 1 << second(f, i);
                        }
                        live[f][i] |= now;
                    }
                    atBegin |= now;
                }
                arguments[f] = atBegin;
            }
            for (int f = 0; f < 8; f++) {
                results[f] = wanted[f] & ~preserved[f] & sure[f];
            }
        }
    }

    private void findSites() {
        for (int f = 0; f < 8; f++) {
            for (int i = 0; i < bodies.get(f).size(); i++) {
                if (kind(f, i) == 'c' && reachable(f, i)) {
                    sites.add(new int[] {f, i, first(f, i), passedAt(f, i), liveAfter(f, i)});
                }
            }
        }
    }

    private int passedAt(int f, int call) {
        int passed = 15;
        for (List<Integer> path : paths.get(f)) {
            int at = path.indexOf(call);
            int stored = 0;
            for (int k = at - 1; k >= 0 && kind(f, path.get(k)) != 'c'; k--) {
                stored |= kind(f, path.get(k)) == 's' ? 1 << first(f, path.get(k)) : 0;
            }
            passed &= at >= 0 ? stored : 15;
        }
        return passed;
    }

    private int liveAfter(int f, int call) {
        int after = 0;
        for (List<Integer> path : paths.get(f)) {
            int at = path.indexOf(call);
            if (at >= 0) {
                after |= at + 1 < path.size() ? live[f][path.get(at + 1)] : results[f];
            }
        }
        return after;
    }

    int needed(int f) {
        int needed = 0;
        for (int i = 0; i < bodies.get(f).size(); i++) {
            if (kind(f, i) == 'l' && reachable(f, i)) {
                needed = Math.max(needed, first(f, i) + 1);
            }
        }
        return needed;
    }

    int missing(int[] site) {
        return (1 << needed(site[2])) - 1 & ~site[3];
    }

    int lost(int[] site) {
        return site[4] & ~preserved[site[2]] & ~sure[site[2]];
    }

    int callees(int f) {
        return sites.stream().filter(s -> s[0] == f).mapToInt(s -> 1 << s[2]).reduce(0, (a, b) -> a | b);
    }

    int callersOf(int f) {
        return sites.stream().filter(s -> s[2] == f).mapToInt(s -> 1 << s[0]).reduce(0, (a, b) -> a | b);
    }

    boolean recursive(int f) {
        boolean[] seen = new boolean[8];
        visit(f, seen);
        return seen[f];
    }

    private void visit(int f, boolean[] seen) {
        for (int[] site : sites) {
            if (site[0] == f && !seen[site[2]]) {
                seen[site[2]] = true;
                visit(site[2], seen);
            }
        }
    }

    boolean variadic(int f) {
        return sites.stream().filter(s -> s[2] == f).mapToInt(s -> s[3]).distinct().count() > 1;
    }

    int filled() {
        return (int) bodies.stream().filter(body -> !body.isEmpty()).count();
    }

    int votes(int register, int kind) {
        int votes = 0;
        for (int f = 0; f < 8; f++) {
            int set = kind == 0 ? arguments[f] : kind == 1 ? results[f] : kind == 2 ? ~preserved[f] : preserved[f];
            votes += !bodies.get(f).isEmpty() && (set & 1 << register) != 0 ? 1 : 0;
        }
        return votes;
    }

    int role(int register) {
        double half = filled() / 2.0;
        return votes(register, 0) >= half ? 1 : votes(register, 1) > 0 ? 2 : votes(register, 2) >= half ? 3 : 4;
    }

    void run(int f, int newChoices) {
        registers = new int[] {0, 1, 2, 3, 4, 5, 6, 7};
        fresh = 100;
        branches = 0;
        steps = 0;
        choices = newChoices;
        cut = !returns(f, 1);
    }

    /** Executes a function as one of so many open activations; answers whether it returned. */
    private boolean returns(int f, int open) {
        ArrayList<Integer> stack = new ArrayList<>();
        int i = 0;
        while (i < bodies.get(f).size()) {
            char kind = kind(f, i);
            if (steps == 300 || kind == '-' && stack.isEmpty() || kind == '+' && stack.size() == 6
                    || kind == 'c' && open == 8) {
                return false;
            }
            steps++;
            switch (kind) {
                case 'd' -> registers[first(f, i)] = fresh++;
                case 'm' -> registers[first(f, i)] = registers[second(f, i)];
                case '+' -> stack.add(registers[first(f, i)]);
                case '-' -> registers[first(f, i)] = stack.remove(stack.size() - 1);
                case 'r' -> {
                    return true;
                }
                case 'b' -> i += (choices & 1 << branches++ % 32) != 0 ? first(f, i) : 0;
                case 'c' -> {
                    if (!returns(first(f, i), open + 1)) {
                        return false;
                    }
                }
                default -> { }
            }
            i++;
        }
        return true;
    }
}
