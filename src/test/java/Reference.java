import java.util.ArrayDeque;
import java.util.ArrayList;
import java.util.Deque;
import java.util.List;

/** The document told once more in the slowest and plainest way: what the random runs are compared with. */
final class Reference {
    static final int NO_SUCH = -1, BAD_VALUE = -2, BAD_TEXT = -3, TOO_MANY = -4, NOT_POSSIBLE = -5, NONE = -6;

    static final class Job {
        int release;
        int due;
        final List<int[]> route = new ArrayList<>();
    }

    static final class World {
        final List<Job> jobs = new ArrayList<>();
        final List<List<Integer>> orders = new ArrayList<>();

        World() {
            for (int m = 0; m < 4; m++) {
                orders.add(new ArrayList<>());
            }
        }

        World copy() {
            World other = new World();
            for (Job job : jobs) {
                Job twin = new Job();
                twin.release = job.release;
                twin.due = job.due;
                for (int[] op : job.route) {
                    twin.route.add(op.clone());
                }
                other.jobs.add(twin);
            }
            for (int m = 0; m < 4; m++) {
                other.orders.get(m).addAll(orders.get(m));
            }
            return other;
        }

        boolean hasJob(int j) {
            return 0 <= j && j < jobs.size();
        }

        boolean hasOp(int o) {
            return o >= 0 && o < 16 && hasJob(o / 4) && o % 4 < jobs.get(o / 4).route.size();
        }

        int machine(int o) {
            return jobs.get(o / 4).route.get(o % 4)[0];
        }

        int duration(int o) {
            return jobs.get(o / 4).route.get(o % 4)[1];
        }

        int op(int job, int machine) {
            for (int i = 0; i < jobs.get(job).route.size(); i++) {
                if (jobs.get(job).route.get(i)[0] == machine) {
                    return 4 * job + i;
                }
            }
            return -1;
        }

        void addOp(int job, int machine, int duration) {
            jobs.get(job).route.add(new int[] {machine, duration});
            orders.get(machine).add(job);
        }

        long plans() {
            long product = 1;
            for (List<Integer> order : orders) {
                for (int k = 2; k <= order.size(); k++) {
                    product *= k;
                }
            }
            return product;
        }
    }

    /** Heads and tails for any arcs between operations. */
    static final class Times {
        final int[] head = new int[16];
        final int[] tail = new int[16];
        boolean possible = true;
        int length;

        Times(World w, boolean[][] arc) {
            for (int o = 0; o < 16; o++) {
                head[o] = w.hasOp(o) ? w.jobs.get(o / 4).release : 0;
            }
            boolean news = true;
            while (news && possible) {
                news = false;
                for (int a = 0; a < 16; a++) {
                    for (int b = 0; b < 16; b++) {
                        if (arc[a][b] && head[b] < head[a] + w.duration(a)) {
                            head[b] = head[a] + w.duration(a);
                            news = true;
                            possible &= head[b] < 2000;
                        }
                        if (arc[a][b] && tail[a] < tail[b] + w.duration(b)) {
                            tail[a] = tail[b] + w.duration(b);
                            news = true;
                        }
                    }
                }
            }
            for (int o = 0; o < 16; o++) {
                if (w.hasOp(o)) {
                    length = Math.max(length, head[o] + w.duration(o) + tail[o]);
                }
            }
        }
    }

    static boolean[][] routeArcs(World w) {
        boolean[][] arc = new boolean[16][16];
        for (int o = 0; o < 15; o++) {
            arc[o][o + 1] = o / 4 == (o + 1) / 4 && w.hasOp(o + 1);
        }
        return arc;
    }

    static Times timesOf(World w) {
        boolean[][] arc = routeArcs(w);
        for (int m = 0; m < 4; m++) {
            for (int p = 0; p + 1 < w.orders.get(m).size(); p++) {
                arc[w.op(w.orders.get(m).get(p), m)][w.op(w.orders.get(m).get(p + 1), m)] = true;
            }
        }
        return new Times(w, arc);
    }

    World w = new World();
    private final Deque<World> history = new ArrayDeque<>();
    private final World[] slots = new World[2];
    private String pad = "";

    private Times times;
    private int[] bestAnswer;

    private void record() {
        history.addLast(w.copy());
        if (history.size() > 6) {
            history.removeFirst();
        }
        touched();
    }

    private void touched() {
        times = null;
        bestAnswer = null;
    }

    Times plan() {
        if (times == null) {
            times = timesOf(w);
        }
        return times;
    }

    int job(int release, int due) {
        if (release < 0 || release > 50 || due < 0 || due > 200) {
            return BAD_VALUE;
        }
        if (w.jobs.size() == 4) {
            return TOO_MANY;
        }
        record();
        Job job = new Job();
        job.release = release;
        job.due = due;
        w.jobs.add(job);
        return w.jobs.size() - 1;
    }

    int operation(int job, int machine, int duration) {
        if (!w.hasJob(job)) {
            return NO_SUCH;
        }
        if (machine < 0 || machine > 3 || duration < 1 || duration > 20) {
            return BAD_VALUE;
        }
        if (w.op(job, machine) >= 0) {
            return NOT_POSSIBLE;
        }
        record();
        w.addOp(job, machine, duration);
        return w.op(job, machine);
    }

    int change(int operation, int duration) {
        if (!w.hasOp(operation)) {
            return NO_SUCH;
        }
        if (duration < 1 || duration > 20) {
            return BAD_VALUE;
        }
        record();
        int[] op = w.jobs.get(operation / 4).route.get(operation % 4);
        int previous = op[1];
        op[1] = duration;
        return previous;
    }

    int swap(int machine, int place) {
        if (machine < 0 || machine > 3) {
            return BAD_VALUE;
        }
        List<Integer> order = w.orders.get(machine);
        if (place < 0 || place >= order.size() || (long) place + 1 >= order.size()) {
            return NO_SUCH;
        }
        record();
        java.util.Collections.swap(order, place, place + 1);
        return plan().possible ? 1 : 0;
    }

    int takeBest() {
        int[] best = bestPlan();
        record();
        for (int m = 0; m < 4; m++) {
            for (int p = 0; p < w.orders.get(m).size(); p++) {
                w.orders.get(m).set(p, best[4 * m + p]);
            }
        }
        return best[16];
    }

    int improve() {
        if (!plan().possible) {
            return NOT_POSSIBLE;
        }
        List<Integer> path = criticalPath();
        World least = null;
        int leastLength = plan().length;
        for (int i = 0; i + 1 < path.size(); i++) {
            int a = path.get(i);
            int b = path.get(i + 1);
            if (w.machine(a) != w.machine(b)) {
                continue;
            }
            World other = w.copy();
            List<Integer> order = other.orders.get(w.machine(a));
            int p = order.indexOf(a / 4);
            if (p + 1 >= order.size() || order.get(p + 1) != b / 4) {
                throw new IllegalStateException("neighbours on the path are none on the machine");
            }
            java.util.Collections.swap(order, p, p + 1);
            Times t = timesOf(other);
            if (t.possible && t.length < leastLength) {
                leastLength = t.length;
                least = other;
            }
        }
        if (least == null) {
            return NOT_POSSIBLE;
        }
        record();
        w = least;
        return leastLength;
    }

    int length() {
        return plan().possible ? plan().length : NONE;
    }

    private boolean critical(int o) {
        return plan().head[o] + w.duration(o) + plan().tail[o] == plan().length;
    }

    List<Integer> criticalPath() {
        List<Integer> path = new ArrayList<>();
        int at = -1;
        for (int o = 15; o >= 0; o--) {
            if (w.hasOp(o) && critical(o) && plan().head[o] == w.jobs.get(o / 4).release) {
                at = o;
            }
        }
        while (at >= 0) {
            path.add(at);
            int end = plan().head[at] + w.duration(at);
            int next = -1;
            List<Integer> order = w.orders.get(w.machine(at));
            int p = order.indexOf(at / 4);
            if (p + 1 < order.size()) {
                int o = w.op(order.get(p + 1), w.machine(at));
                if (critical(o) && plan().head[o] == end) {
                    next = o;
                }
            }
            if (at % 4 < 3 && w.hasOp(at + 1) && critical(at + 1) && plan().head[at + 1] == end) {
                next = at + 1;
            }
            at = next;
        }
        return path;
    }

    int about(int o, int what) {
        if (!w.hasOp(o)) {
            return NO_SUCH;
        }
        if (what < 0 || what > 7) {
            return BAD_VALUE;
        }
        if (what > 2 && !plan().possible) {
            return NONE;
        }
        switch (what) {
            case 0: return w.machine(o);
            case 1: return w.duration(o);
            case 2: return w.orders.get(w.machine(o)).indexOf(o / 4);
            case 3: return plan().head[o];
            case 4: return plan().tail[o];
            case 5: return plan().length - plan().head[o] - w.duration(o) - plan().tail[o];
            case 6: return critical(o) ? 1 : 0;
            default:
                int at = criticalPath().indexOf(o);
                return at < 0 ? NONE : at;
        }
    }

    int path(int place) {
        if (!plan().possible) {
            return NONE;
        }
        List<Integer> path = criticalPath();
        return place < 0 || place >= path.size() ? NONE : path.get(place);
    }

    int order(int machine, int place) {
        if (machine < 0 || machine > 3) {
            return BAD_VALUE;
        }
        List<Integer> order = w.orders.get(machine);
        return place < 0 || place >= order.size() ? NONE : order.get(place);
    }

    private int end(int j) {
        Job job = w.jobs.get(j);
        int n = job.route.size();
        return n == 0 ? job.release : plan().head[4 * j + n - 1] + w.duration(4 * j + n - 1);
    }

    private int late(int j) {
        return Math.max(0, end(j) - w.jobs.get(j).due);
    }

    int ofJob(int j, int what) {
        if (!w.hasJob(j)) {
            return NO_SUCH;
        }
        if (what < 0 || what > 5) {
            return BAD_VALUE;
        }
        Job job = w.jobs.get(j);
        switch (what) {
            case 0: return job.release;
            case 1: return job.due;
            case 2: return job.route.size();
            case 3: return job.route.stream().mapToInt(op -> op[1]).sum();
            case 4: return plan().possible ? end(j) : NONE;
            default: return plan().possible ? late(j) : NONE;
        }
    }

    int count(int what) {
        if (what < 0 || what > 9) {
            return BAD_VALUE;
        }
        if (what >= 3 && what <= 6 && !plan().possible) {
            return NONE;
        }
        int sum = 0;
        switch (what) {
            case 0: return w.jobs.size();
            case 1: return w.jobs.stream().mapToInt(job -> job.route.size()).sum();
            case 2: return w.jobs.stream().flatMap(job -> job.route.stream()).mapToInt(op -> op[1]).sum();
            case 3: return criticalPath().size();
            case 4:
                int last = -1;
                for (int o : criticalPath()) {
                    sum += w.machine(o) != last ? 1 : 0;
                    last = w.machine(o);
                }
                return sum;
            case 5:
                for (int j = 0; j < w.jobs.size(); j++) {
                    sum += late(j);
                }
                return sum;
            case 6:
                for (int j = 0; j < w.jobs.size(); j++) {
                    sum = Math.max(sum, late(j));
                }
                return sum;
            case 7: return plan().possible ? 1 : 0;
            case 8: return pad.length();
            default: return history.size();
        }
    }

    int bound(int machine) {
        if (machine < -1 || machine > 3) {
            return BAD_VALUE;
        }
        int greatest = 0;
        for (int m = 0; m < 4; m++) {
            if (machine == -1 || machine == m) {
                greatest = Math.max(greatest, boundOf(m));
            }
        }
        return greatest;
    }

    private int boundOf(int m) {
        int[] head = new int[4];
        int[] left = new int[4];
        int[] tail = new int[4];
        for (int j = 0; j < w.jobs.size(); j++) {
            head[j] = w.jobs.get(j).release;
            boolean behind = false;
            for (int[] op : w.jobs.get(j).route) {
                if (op[0] == m) {
                    left[j] = op[1];
                    behind = true;
                } else if (behind) {
                    tail[j] += op[1];
                } else {
                    head[j] += op[1];
                }
            }
        }
        int greatest = 0;
        for (int time = 0; time < 1000; time++) {
            int chosen = -1;
            for (int j = 0; j < 4; j++) {
                if (left[j] > 0 && head[j] <= time && (chosen < 0 || tail[j] > tail[chosen])) {
                    chosen = j;
                }
            }
            if (chosen >= 0 && --left[chosen] == 0) {
                greatest = Math.max(greatest, time + 1 + tail[chosen]);
            }
        }
        return greatest;
    }

    /** The forced pairs, null if the limit cannot be kept. One pair is forced at a time. */
    private boolean[][] forcedPairs(int limit) {
        boolean[][] forced = new boolean[16][16];
        while (true) {
            boolean[][] arc = routeArcs(w);
            for (int a = 0; a < 16; a++) {
                for (int b = 0; b < 16; b++) {
                    arc[a][b] |= forced[a][b];
                    if (forced[a][b] && forced[b][a]) {
                        return null;
                    }
                }
            }
            Times t = new Times(w, arc);
            if (!t.possible || t.length > limit) {
                return null;
            }
            boolean news = false;
            for (int x = 15; x >= 0 && !news; x--) {
                for (int y = 15; y >= 0 && !news; y--) {
                    if (x != y && w.hasOp(x) && w.hasOp(y) && w.machine(x) == w.machine(y) && !forced[y][x]
                            && t.head[x] + w.duration(x) + w.duration(y) + t.tail[y] > limit) {
                        forced[y][x] = true;
                        news = true;
                    }
                }
            }
            if (!news) {
                return forced;
            }
        }
    }

    int forced(int limit) {
        if (limit < 0 || limit > 500) {
            return BAD_VALUE;
        }
        boolean[][] forced = forcedPairs(limit);
        if (forced == null) {
            return NONE;
        }
        int pairs = 0;
        for (boolean[] row : forced) {
            for (boolean each : row) {
                pairs += each ? 1 : 0;
            }
        }
        return pairs;
    }

    int isForced(int limit, int one, int other) {
        if (!w.hasOp(one) || !w.hasOp(other)) {
            return NO_SUCH;
        }
        if (limit < 0 || limit > 500 || one == other || w.machine(one) != w.machine(other)) {
            return BAD_VALUE;
        }
        boolean[][] forced = forcedPairs(limit);
        if (forced == null) {
            return NONE;
        }
        return forced[one][other] ? 1 : 0;
    }

    /** Tries all orders: the first rest jobs of each machine are free, the others come first as they are. */
    private final class Trying {
        final int[][] order = new int[4][];
        final int[] fixed = new int[4];
        final int[] ready = new int[16];
        final int[] duration = new int[16];
        final int[] machine = new int[16];
        final int[] steps = new int[4];
        final int[] best = new int[17];
        private final int[] done = new int[4];
        private final int[] at = new int[4];
        private final int[] free = new int[4];
        private final int[] freeJob = new int[4];

        Trying() {
            best[16] = Integer.MAX_VALUE;
            for (int m = 0; m < 4; m++) {
                order[m] = w.orders.get(m).stream().mapToInt(j -> j).toArray();
            }
            for (int o = 0; o < 16; o++) {
                if (w.hasOp(o)) {
                    steps[o / 4]++;
                    ready[o] = w.jobs.get(o / 4).release;
                    duration[o] = w.duration(o);
                    machine[o] = w.machine(o);
                }
            }
        }

        int[] run() {
            for (int m = 0; m < 4; m++) {
                java.util.Arrays.sort(order[m], fixed[m], order[m].length);
            }
            machines(0);
            return best;
        }

        private void machines(int m) {
            if (m == 4) {
                look();
                return;
            }
            places(m, fixed[m]);
        }

        /** All orders from this place on, the first ones by the numbers first. */
        private void places(int m, int p) {
            if (p >= order[m].length) {
                machines(m + 1);
                return;
            }
            for (int q = p; q < order[m].length; q++) {
                int job = order[m][q];
                System.arraycopy(order[m], p, order[m], p + 1, q - p);
                order[m][p] = job;
                places(m, p + 1);
                System.arraycopy(order[m], p + 1, order[m], p, q - p);
                order[m][q] = job;
            }
        }

        private void look() {
            java.util.Arrays.fill(done, 0);
            java.util.Arrays.fill(at, 0);
            java.util.Arrays.fill(free, 0);
            java.util.Arrays.fill(freeJob, 0);
            int length = 0;
            boolean news = true;
            while (news) {
                news = false;
                for (int j = 0; j < 4; j++) {
                    while (done[j] < steps[j]) {
                        int o = 4 * j + done[j];
                        int m = machine[o];
                        if (order[m][at[m]] != j) {
                            break;
                        }
                        int end = Math.max(ready[o], Math.max(free[m], freeJob[j])) + duration[o];
                        free[m] = end;
                        freeJob[j] = end;
                        at[m]++;
                        done[j]++;
                        length = Math.max(length, end);
                        news = true;
                    }
                }
            }
            for (int j = 0; j < 4; j++) {
                if (done[j] < steps[j]) {
                    return;
                }
            }
            if (length < best[16]) {
                best[16] = length;
                for (int m = 0; m < 4; m++) {
                    System.arraycopy(order[m], 0, best, 4 * m, order[m].length);
                }
            }
        }
    }

    private int[] bestPlan() {
        if (bestAnswer == null) {
            bestAnswer = new Trying().run();
        }
        return bestAnswer;
    }

    int best(int machine, int place) {
        if (machine < -1 || machine > 3) {
            return BAD_VALUE;
        }
        if (machine == -1) {
            return bestPlan()[16];
        }
        return place < 0 || place >= w.orders.get(machine).size() ? NONE : bestPlan()[4 * machine + place];
    }

    int breakdown(int machine, int from, int until, int what) {
        if (machine < 0 || machine > 3 || from < 0 || from > 200 || until < from || until > 400
                || what < -1 || what > 15) {
            return BAD_VALUE;
        }
        if (!plan().possible) {
            return NOT_POSSIBLE;
        }
        if (what >= 0 && what % 4 >= w.orders.get(what / 4).size()) {
            return NONE;
        }
        Trying trying = new Trying();
        for (int o = 0; o < 16; o++) {
            if (!w.hasOp(o)) {
                continue;
            }
            boolean broken = w.machine(o) == machine;
            boolean stays = plan().head[o] + w.duration(o) <= from || !broken && plan().head[o] < from;
            if (stays) {
                trying.fixed[w.machine(o)]++;
            } else {
                trying.ready[o] = Math.max(trying.ready[o], broken ? until : from);
            }
        }
        int[] best = trying.run();
        return what < 0 ? best[16] : best[what];
    }

    int put(long characters) {
        StringBuilder text = new StringBuilder();
        boolean ended = false;
        for (int i = 0; i < 8; i++) {
            int code = (int) (characters >>> (8 * i)) & 255;
            if (code == 0) {
                ended = true;
            } else if (ended || code < 33 || code > 126) {
                return BAD_VALUE;
            } else {
                text.insert(0, (char) code);
            }
        }
        if (text.length() == 0) {
            return BAD_VALUE;
        }
        if (pad.length() + text.length() > 80) {
            return TOO_MANY;
        }
        pad += text;
        return pad.length();
    }

    int wipe() {
        int had = pad.length();
        pad = "";
        return had;
    }

    private static boolean isNumber(String text, int least, int most) {
        return text.matches("0|[1-9][0-9]{0,2}") && Integer.parseInt(text) >= least && Integer.parseInt(text) <= most;
    }

    /** The text as a whole, as routes. */
    static boolean areRoutes(String text) {
        String[] jobs = text.split(";", -1);
        if (jobs.length > 4) {
            return false;
        }
        for (String job : jobs) {
            String[] parts = job.split(",", -1);
            String machines = "";
            for (int i = 0; i < parts.length; i++) {
                if (i == 0) {
                    int d = parts[0].indexOf('d');
                    if (!parts[0].startsWith("r") || d < 0 || !isNumber(parts[0].substring(1, d), 0, 50)
                            || !isNumber(parts[0].substring(d + 1), 0, 200)) {
                        return false;
                    }
                } else {
                    if (!parts[i].matches("[0-3]\\*.*") || machines.indexOf(parts[i].charAt(0)) >= 0
                            || !isNumber(parts[i].substring(2), 1, 20)) {
                        return false;
                    }
                    machines += parts[i].charAt(0);
                }
            }
        }
        return true;
    }

    /** The text as a whole, as a plan. */
    static boolean isPlan(String text) {
        String[] orders = text.split(";", -1);
        String machines = "";
        for (String order : orders) {
            if (!order.matches("[0-3]:[0-3]{0,4}") || machines.indexOf(order.charAt(0)) >= 0
                    || order.substring(2).chars().distinct().count() != order.length() - 2) {
                return false;
            }
            machines += order.charAt(0);
        }
        return true;
    }

    private static final String[] ROUTE_ENDS = {"", "0", "1", "d0", "0d0", "r0d0", "*1", "0*1", "1*1", "2*1", "3*1"};
    private static final String[] PLAN_ENDS = {"", ":", "0:", "1:", "2:", "3:"};

    /** The first character with which no text goes on to a whole one. */
    static int faultOf(String text, int kind) {
        for (int n = 1; n <= text.length(); n++) {
            boolean goesOn = false;
            for (String end : kind == 0 ? ROUTE_ENDS : PLAN_ENDS) {
                String whole = text.substring(0, n) + end;
                goesOn |= kind == 0 ? areRoutes(whole) : isPlan(whole);
            }
            if (!goesOn) {
                return n - 1;
            }
        }
        return (kind == 0 ? areRoutes(text) : isPlan(text)) ? NONE : text.length();
    }

    int fault(int kind) {
        return kind != 0 && kind != 1 ? BAD_VALUE : faultOf(pad, kind);
    }

    int loadRoutes() {
        if (!areRoutes(pad)) {
            return BAD_TEXT;
        }
        record();
        w = new World();
        for (String text : pad.split(";")) {
            String[] parts = text.split(",");
            Job job = new Job();
            job.release = Integer.parseInt(parts[0].substring(1, parts[0].indexOf('d')));
            job.due = Integer.parseInt(parts[0].substring(parts[0].indexOf('d') + 1));
            w.jobs.add(job);
            for (int i = 1; i < parts.length; i++) {
                w.addOp(w.jobs.size() - 1, parts[i].charAt(0) - '0', Integer.parseInt(parts[i].substring(2)));
            }
        }
        pad = "";
        return w.jobs.size();
    }

    int loadPlan() {
        if (!isPlan(pad)) {
            return BAD_TEXT;
        }
        World other = w.copy();
        for (String text : pad.split(";")) {
            List<Integer> order = new ArrayList<>();
            for (char c : text.substring(2).toCharArray()) {
                order.add(c - '0');
            }
            List<Integer> due = new ArrayList<>(w.orders.get(text.charAt(0) - '0'));
            List<Integer> given = new ArrayList<>(order);
            java.util.Collections.sort(due);
            java.util.Collections.sort(given);
            if (!due.equals(given)) {
                return NOT_POSSIBLE;
            }
            other.orders.set(text.charAt(0) - '0', order);
        }
        record();
        w = other;
        pad = "";
        return plan().possible ? 1 : 0;
    }

    int undo() {
        if (history.isEmpty()) {
            return NOT_POSSIBLE;
        }
        w = history.removeLast();
        touched();
        return history.size();
    }

    int save(int slot) {
        if (slot < 0 || slot > 1) {
            return BAD_VALUE;
        }
        slots[slot] = w.copy();
        return w.jobs.size();
    }

    int restore(int slot) {
        if (slot < 0 || slot > 1) {
            return BAD_VALUE;
        }
        if (slots[slot] == null) {
            return NOT_POSSIBLE;
        }
        record();
        w = slots[slot].copy();
        return w.jobs.size();
    }
}
