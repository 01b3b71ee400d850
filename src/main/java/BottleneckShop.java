/** Plans a small workshop: jobs on their routes through machines, and an order of the jobs on each machine. */
public final class BottleneckShop {
    public static final int NO_SUCH = -1, BAD_VALUE = -2, BAD_TEXT = -3, TOO_MANY = -4, NOT_POSSIBLE = -5, NONE = -6;

    private static final int JOBS = 4;
    private static final int MACHINES = 4;
    private static final int STEPS = 4;
    /** Operations have the numbers STEPS * job + step; rows by machine and job, or machine and place, are as long. */
    private static final int OPERATIONS = 16;
    private static final int PAIRS = 24;
    private static final int HISTORY = 6;
    private static final int SLOTS = 2;
    private static final int PAD = 80;
    private static final int SIGNS_OF_A_NUMBER = 8;
    private static final int MOST_RELEASE = 50;
    private static final int MOST_DUE = 200;
    private static final int MOST_DURATION = 20;
    private static final int MOST_LIMIT = 500;
    private static final int MOST_FROM = 200;
    private static final int MOST_UNTIL = 400;
    /** Later than everything: the latest begin is 400, and all durations together are 320. */
    private static final int FAR = 1000;

    private final State now = new State();
    private final State draft = new State();
    private final History history = new History();
    private final State[] slots = new State[SLOTS];
    private final boolean[] saved = new boolean[SLOTS];
    private final Pad pad = new Pad();

    private final Net plan = new Net();
    private final Path criticalPath = new Path();
    private boolean planKnown;
    private boolean planPossible;

    private final Net trial = new Net();
    private final Search leastPlan = new Search();
    private final Search repair = new Search();
    private int repairMachine;
    private int repairFrom;
    private int repairUntil;

    public BottleneckShop() {
        for (int slot = 0; slot < SLOTS; slot++) {
            slots[slot] = new State();
        }
    }

    // ---- jobs, plans

    public int job(int release, int due) {
        if (!within(release, 0, MOST_RELEASE) || !within(due, 0, MOST_DUE)) {
            return BAD_VALUE;
        }
        if (now.jobs >= JOBS) {
            return TOO_MANY;
        }
        beginChange();
        return now.addJob(release, due);
    }

    public int operation(int job, int machine, int duration) {
        if (!now.hasJob(job)) {
            return NO_SUCH;
        }
        if (!isMachine(machine) || !within(duration, 1, MOST_DURATION)) {
            return BAD_VALUE;
        }
        if (now.operationOf(job, machine) != NONE) {
            return NOT_POSSIBLE;
        }
        beginChange();
        return now.addOperation(job, machine, duration);
    }

    public int change(int operation, int duration) {
        if (!now.hasOperation(operation)) {
            return NO_SUCH;
        }
        if (!within(duration, 1, MOST_DURATION)) {
            return BAD_VALUE;
        }
        beginChange();
        int previous = now.duration[operation];
        now.duration[operation] = duration;
        return previous;
    }

    public int swap(int machine, int place) {
        if (!isMachine(machine)) {
            return BAD_VALUE;
        }
        if (place < 0 || place >= now.queued[machine] - 1) {
            return NO_SUCH;
        }
        beginChange();
        now.exchange(machine, place);
        return knowPlan() ? 1 : 0;
    }

    public int takeBest() {
        leastPlan.net.load(now);
        leastPlan.find();
        beginChange();
        copyRow(leastPlan.found, now.queue);
        return leastPlan.least;
    }

    public int improve() {
        if (!knowPlan()) {
            return NOT_POSSIBLE;
        }
        int least = plan.longest;
        int chosen = NONE;
        for (int place = 0; place < criticalPath.size - 1; place++) {
            int first = criticalPath.operations[place];
            if (now.machine[first] == now.machine[criticalPath.operations[place + 1]]) {
                int length = lengthBehindNext(first);
                if (length != NONE && length < least) {
                    least = length;
                    chosen = first;
                }
            }
        }
        if (chosen == NONE) {
            return NOT_POSSIBLE;
        }
        beginChange();
        now.exchange(now.machine[chosen], now.placeOf(chosen));
        return least;
    }

    // ---- the plan as it is

    public int length() {
        return knowPlan() ? plan.longest : NONE;
    }

    public int about(int operation, int what) {
        if (!now.hasOperation(operation)) {
            return NO_SUCH;
        }
        if (!within(what, 0, 7)) {
            return BAD_VALUE;
        }
        if (what == 0) {
            return now.machine[operation];
        }
        if (what == 1) {
            return now.duration[operation];
        }
        if (what == 2) {
            return now.placeOf(operation);
        }
        return knowPlan() ? timeAbout(operation, what) : NONE;
    }

    public int path(int place) {
        if (!knowPlan() || place < 0 || place >= criticalPath.size) {
            return NONE;
        }
        return criticalPath.operations[place];
    }

    public int order(int machine, int place) {
        if (!isMachine(machine)) {
            return BAD_VALUE;
        }
        return now.hasPlace(machine, place) ? now.queue[MACHINES * machine + place] : NONE;
    }

    public int ofJob(int job, int what) {
        if (!now.hasJob(job)) {
            return NO_SUCH;
        }
        if (!within(what, 0, 5)) {
            return BAD_VALUE;
        }
        switch (what) {
            case 0:
                return now.release[job];
            case 1:
                return now.due[job];
            case 2:
                return now.steps[job];
            case 3:
                return now.work(job);
            default:
                break;
        }
        if (!knowPlan()) {
            return NONE;
        }
        return what == 4 ? endOfJob(job) : lateness(job);
    }

    public int count(int what) {
        if (!within(what, 0, 9)) {
            return BAD_VALUE;
        }
        switch (what) {
            case 0:
                return now.jobs;
            case 1:
                return now.allSteps();
            case 2:
                return now.allWork();
            case 7:
                return knowPlan() ? 1 : 0;
            case 8:
                return pad.length;
            case 9:
                return history.recorded;
            default:
                return knowPlan() ? numberOfPlan(what) : NONE;
        }
    }

    // ---- bounds, forced orders, best plans

    public int bound(int machine) {
        if (!within(machine, -1, MACHINES - 1)) {
            return BAD_VALUE;
        }
        trial.load(now);
        trial.measure();
        return machine < 0 ? trial.greatestBound() : trial.boundOf(machine);
    }

    public int forced(int limit) {
        if (!within(limit, 0, MOST_LIMIT)) {
            return BAD_VALUE;
        }
        trial.load(now);
        return trial.keeps(limit) ? trial.decidedPairs() : NONE;
    }

    public int isForced(int limit, int one, int other) {
        if (!now.hasOperation(one) || !now.hasOperation(other)) {
            return NO_SUCH;
        }
        if (!within(limit, 0, MOST_LIMIT) || one == other || now.machine[one] != now.machine[other]) {
            return BAD_VALUE;
        }
        trial.load(now);
        if (!trial.keeps(limit)) {
            return NONE;
        }
        return trial.goesAhead(one, other) ? 1 : 0;
    }

    public int best(int machine, int place) {
        if (!within(machine, -1, MACHINES - 1)) {
            return BAD_VALUE;
        }
        if (machine >= 0 && !now.hasPlace(machine, place)) {
            return NONE;
        }
        leastPlan.net.load(now);
        leastPlan.find();
        return machine < 0 ? leastPlan.least : leastPlan.found[MACHINES * machine + place];
    }

    public int breakdown(int machine, int from, int until, int what) {
        if (!isMachine(machine) || !within(from, 0, MOST_FROM) || !within(until, from, MOST_UNTIL)
                || !within(what, -1, OPERATIONS - 1)) {
            return BAD_VALUE;
        }
        if (!knowPlan()) {
            return NOT_POSSIBLE;
        }
        if (what >= 0 && !now.hasPlace(what / MACHINES, what % MACHINES)) {
            return NONE;
        }
        takeBreakdown(machine, from, until);
        repair.find();
        return what < 0 ? repair.least : repair.found[what];
    }

    // ---- texts

    public int put(long characters) {
        int signs = signsIn(characters);
        if (signs == BAD_VALUE) {
            return BAD_VALUE;
        }
        if (pad.length + signs > PAD) {
            return TOO_MANY;
        }
        for (int behind = signs - 1; behind >= 0; behind--) {
            pad.append((char) ((characters >>> (8 * behind)) & 255));
        }
        return pad.length;
    }

    public int wipe() {
        int had = pad.length;
        pad.length = 0;
        return had;
    }

    public int fault(int kind) {
        if (kind == 0) {
            return pad.readRoutes(draft);
        }
        return kind == 1 ? pad.readPlan(draft) : BAD_VALUE;
    }

    public int loadRoutes() {
        if (pad.readRoutes(draft) != NONE) {
            return BAD_TEXT;
        }
        beginChange();
        now.become(draft);
        pad.length = 0;
        return now.jobs;
    }

    public int loadPlan() {
        if (pad.readPlan(draft) != NONE) {
            return BAD_TEXT;
        }
        for (int machine = 0; machine < MACHINES; machine++) {
            if (pad.names(machine) && draft.jobsInOrder(machine) != now.jobsInOrder(machine)) {
                return NOT_POSSIBLE;
            }
        }
        beginChange();
        for (int machine = 0; machine < MACHINES; machine++) {
            if (pad.names(machine)) {
                now.takeOrder(draft, machine);
            }
        }
        pad.length = 0;
        return knowPlan() ? 1 : 0;
    }

    // ---- undo, saving

    public int undo() {
        if (history.recorded <= 0) {
            return NOT_POSSIBLE;
        }
        history.takeBack(now);
        forgetAnswers();
        return history.recorded;
    }

    public int save(int slot) {
        if (!within(slot, 0, SLOTS - 1)) {
            return BAD_VALUE;
        }
        if (slots[slot] != null) {
            slots[slot].become(now);
            saved[slot] = true;
        }
        return now.jobs;
    }

    public int restore(int slot) {
        if (!within(slot, 0, SLOTS - 1)) {
            return BAD_VALUE;
        }
        if (!saved[slot]) {
            return NOT_POSSIBLE;
        }
        beginChange();
        now.become(slots[slot]);
        return now.jobs;
    }

    // ---- what the calls share

    private static boolean within(int value, int least, int most) {
        return value >= least && value <= most;
    }

    private static boolean isMachine(int machine) {
        return within(machine, 0, MACHINES - 1);
    }

    private static void copyRow(int[] from, int[] to) {
        for (int i = 0; i < from.length && i < to.length; i++) {
            to[i] = from[i];
        }
    }

    /** Every change comes through here before it happens. */
    private void beginChange() {
        history.record(now);
        forgetAnswers();
    }

    private void forgetAnswers() {
        planKnown = false;
        leastPlan.known = false;
        repair.known = false;
    }

    /** Finds heads, tails and the critical path, and tells whether the plan is possible. */
    private boolean knowPlan() {
        if (!planKnown) {
            plan.load(now);
            plan.followOrders(now);
            planPossible = plan.measure();
            if (planPossible) {
                criticalPath.trace(plan, now);
            }
            planKnown = true;
        }
        return planPossible;
    }

    /** Makes the repair one of this breakdown; one that was found for it is kept. */
    private void takeBreakdown(int machine, int from, int until) {
        if (repairMachine != machine || repairFrom != from || repairUntil != until) {
            repair.known = false;
        }
        repairMachine = machine;
        repairFrom = from;
        repairUntil = until;
        repair.net.load(now);
        for (int each = 0; each < MACHINES; each++) {
            int staying = 0;
            for (int place = 0; place < now.queued[each]; place++) {
                int operation = now.operationAt(each, place);
                if (stays(operation, machine, from)) {
                    staying++;
                } else {
                    repair.net.holdBack(operation, each == machine ? until : from);
                }
            }
            repair.net.followOrder(now, each, staying);
        }
    }

    private boolean stays(int operation, int broken, int from) {
        if (!now.hasOperation(operation)) {
            return false;
        }
        if (now.machine[operation] == broken) {
            return plan.endOf(operation) <= from;
        }
        return plan.head[operation] < from;
    }

    /** The length if the operation and the next one on its machine were exchanged; NONE if there is a way round. */
    private int lengthBehindNext(int operation) {
        int machine = now.machine[operation];
        int place = now.placeOf(operation);
        now.exchange(machine, place);
        trial.load(now);
        trial.followOrders(now);
        int length = trial.measure() ? trial.longest : NONE;
        now.exchange(machine, place);
        return length;
    }

    private int timeAbout(int operation, int what) {
        switch (what) {
            case 3:
                return plan.head[operation];
            case 4:
                return plan.tail[operation];
            case 5:
                return plan.slackOf(operation);
            case 6:
                return plan.slackOf(operation) == 0 ? 1 : 0;
            default:
                return criticalPath.placeOf(operation);
        }
    }

    private int numberOfPlan(int what) {
        switch (what) {
            case 3:
                return criticalPath.size;
            case 4:
                return criticalPath.blocks(now);
            case 5:
                return sumOfLateness();
            default:
                return greatestLateness();
        }
    }

    private int endOfJob(int job) {
        int steps = now.steps[job];
        return steps > 0 ? plan.endOf(STEPS * job + steps - 1) : now.release[job];
    }

    private int lateness(int job) {
        int late = endOfJob(job) - now.due[job];
        return late > 0 ? late : 0;
    }

    private int sumOfLateness() {
        int sum = 0;
        for (int job = 0; job < now.jobs; job++) {
            sum += lateness(job);
        }
        return sum;
    }

    private int greatestLateness() {
        int greatest = 0;
        for (int job = 0; job < now.jobs; job++) {
            int late = lateness(job);
            greatest = late > greatest ? late : greatest;
        }
        return greatest;
    }

    /** How many characters the number gives, BAD_VALUE if it is none that may be put. */
    private static int signsIn(long characters) {
        int signs = 0;
        long rest = characters;
        while (signs < SIGNS_OF_A_NUMBER && (rest & 255) != 0) {
            int code = (int) (rest & 255);
            if (!within(code, 33, 126)) {
                return BAD_VALUE;
            }
            rest >>>= 8;
            signs++;
        }
        return signs == 0 || rest != 0 ? BAD_VALUE : signs;
    }

    /** Jobs, their routes and the plan: all that undo and the slots bring back. */
    private static final class State {
        int jobs;
        final int[] release = new int[JOBS];
        final int[] due = new int[JOBS];
        final int[] steps = new int[JOBS];
        final int[] machine = new int[OPERATIONS];
        final int[] duration = new int[OPERATIONS];
        final int[] queued = new int[MACHINES];
        /** The jobs in the orders, at MACHINES * machine + place. */
        final int[] queue = new int[OPERATIONS];

        void become(State other) {
            if (other == null) {
                return;
            }
            jobs = other.jobs;
            copyRow(other.release, release);
            copyRow(other.due, due);
            copyRow(other.steps, steps);
            copyRow(other.machine, machine);
            copyRow(other.duration, duration);
            copyRow(other.queued, queued);
            copyRow(other.queue, queue);
        }

        void clear() {
            jobs = 0;
            for (int job = 0; job < JOBS; job++) {
                steps[job] = 0;
            }
            for (int each = 0; each < MACHINES; each++) {
                queued[each] = 0;
            }
        }

        boolean hasJob(int job) {
            return job >= 0 && job < jobs;
        }

        boolean hasOperation(int operation) {
            return operation >= 0 && operation < OPERATIONS && operation % STEPS < steps[operation / STEPS];
        }

        boolean hasPlace(int onMachine, int place) {
            return place >= 0 && place < queued[onMachine];
        }

        int addJob(int released, int dueAt) {
            if (jobs >= JOBS) {
                return TOO_MANY;
            }
            release[jobs] = released;
            due[jobs] = dueAt;
            steps[jobs] = 0;
            jobs++;
            return jobs - 1;
        }

        int addOperation(int job, int onMachine, int lasting) {
            if (steps[job] >= STEPS || queued[onMachine] >= JOBS) {
                return NOT_POSSIBLE;
            }
            int operation = STEPS * job + steps[job];
            machine[operation] = onMachine;
            duration[operation] = lasting;
            steps[job]++;
            append(onMachine, job);
            return operation;
        }

        void append(int onMachine, int job) {
            if (queued[onMachine] < JOBS) {
                queue[MACHINES * onMachine + queued[onMachine]] = job;
                queued[onMachine]++;
            }
        }

        /** The operation of the job on the machine, NONE if there is none. */
        int operationOf(int job, int onMachine) {
            for (int step = 0; step < steps[job]; step++) {
                if (machine[STEPS * job + step] == onMachine) {
                    return STEPS * job + step;
                }
            }
            return NONE;
        }

        int operationAt(int onMachine, int place) {
            return hasPlace(onMachine, place) ? operationOf(queue[MACHINES * onMachine + place], onMachine) : NONE;
        }

        int placeOf(int operation) {
            int onMachine = machine[operation];
            for (int place = 0; place < queued[onMachine]; place++) {
                if (queue[MACHINES * onMachine + place] == operation / STEPS) {
                    return place;
                }
            }
            return NONE;
        }

        int nextOnMachine(int operation) {
            int place = placeOf(operation);
            return place == NONE ? NONE : operationAt(machine[operation], place + 1);
        }

        void exchange(int onMachine, int place) {
            if (place < 0 || place >= queued[onMachine] - 1) {
                return;
            }
            int first = MACHINES * onMachine + place;
            int job = queue[first];
            queue[first] = queue[first + 1];
            queue[first + 1] = job;
        }

        void takeOrder(State other, int onMachine) {
            queued[onMachine] = 0;
            for (int place = 0; place < other.queued[onMachine]; place++) {
                append(onMachine, other.queue[MACHINES * onMachine + place]);
            }
        }

        /** The jobs in the order of the machine, as a set. */
        int jobsInOrder(int onMachine) {
            int set = 0;
            for (int place = 0; place < queued[onMachine]; place++) {
                set |= 1 << queue[MACHINES * onMachine + place];
            }
            return set;
        }

        int work(int job) {
            int sum = 0;
            for (int step = 0; step < steps[job]; step++) {
                sum += duration[STEPS * job + step];
            }
            return sum;
        }

        int allWork() {
            int sum = 0;
            for (int job = 0; job < jobs; job++) {
                sum += work(job);
            }
            return sum;
        }

        int allSteps() {
            int sum = 0;
            for (int job = 0; job < jobs; job++) {
                sum += steps[job];
            }
            return sum;
        }
    }

    /** The states before the latest changes, in a ring. */
    private static final class History {
        final State[] states = new State[HISTORY];
        int recorded;
        private int newest;

        History() {
            for (int i = 0; i < HISTORY; i++) {
                states[i] = new State();
            }
        }

        void record(State state) {
            newest = (newest + 1) % HISTORY;
            if (states[newest] != null) {
                states[newest].become(state);
            }
            if (recorded < HISTORY) {
                recorded++;
            }
        }

        void takeBack(State state) {
            if (recorded > 0) {
                state.become(states[newest]);
                newest = (newest + HISTORY - 1) % HISTORY;
                recorded--;
            }
        }
    }

    /** Operations, and for each pair of them on one machine which goes ahead, as far as that is decided. */
    private static final class Net {
        final int[] steps = new int[JOBS];
        final int[] machine = new int[OPERATIONS];
        final int[] duration = new int[OPERATIONS];
        /** The earliest begin of an operation, whatever goes ahead of it. */
        final int[] ready = new int[OPERATIONS];
        /** The operation at MACHINES * machine + job, NONE if there is none. */
        final int[] on = new int[OPERATIONS];
        /** For an operation the set of the jobs that are decided to go ahead of it on its machine. */
        final int[] ahead = new int[OPERATIONS];
        final int[] head = new int[OPERATIONS];
        final int[] tail = new int[OPERATIONS];
        int longest;
        private int operations;
        /** The operations, each behind all that go ahead of it, as far as they are sorted. */
        private final int[] sorted = new int[OPERATIONS];
        private int sortedSize;
        private final int[] sortedSteps = new int[JOBS];
        private final int[] sortedOn = new int[MACHINES];
        private final int[] unfinished = new int[JOBS];

        /** Takes the routes of the state, with no order on machines decided. */
        void load(State state) {
            operations = 0;
            for (int i = 0; i < OPERATIONS; i++) {
                on[i] = NONE;
                ahead[i] = 0;
            }
            copyRow(state.steps, steps);
            for (int job = 0; job < JOBS; job++) {
                for (int step = 0; step < steps[job]; step++) {
                    int operation = STEPS * job + step;
                    machine[operation] = state.machine[operation];
                    duration[operation] = state.duration[operation];
                    ready[operation] = state.release[job];
                    on[MACHINES * machine[operation] + job] = operation;
                    operations++;
                }
            }
        }

        void followOrders(State state) {
            for (int each = 0; each < MACHINES; each++) {
                followOrder(state, each, state.queued[each]);
            }
        }

        /** Decides that the first jobs in the order of a machine go ahead in that order, and the others behind them. */
        void followOrder(State state, int onMachine, int places) {
            int others = jobsOn(onMachine);
            for (int place = 0; place < places && place < state.queued[onMachine]; place++) {
                int job = state.queue[MACHINES * onMachine + place];
                others &= ~(1 << job);
                letFirst(onMachine, job, others);
            }
        }

        /** Decides that the job goes ahead of a set of others. */
        void letFirst(int onMachine, int job, int others) {
            for (int other = 0; other < JOBS; other++) {
                int operation = on[MACHINES * onMachine + other];
                if (operation >= 0 && (others >> other & 1) != 0) {
                    ahead[operation] |= 1 << job;
                }
            }
        }

        void decide(int first, int second) {
            ahead[second] |= 1 << (first / STEPS);
        }

        /** Whether the first one of two operations on the same machine is decided to go ahead of the second one. */
        boolean goesAhead(int first, int second) {
            return (ahead[second] >> (first / STEPS) & 1) != 0;
        }

        private boolean undecided(int one, int other) {
            return one >= 0 && other >= 0 && !goesAhead(one, other) && !goesAhead(other, one);
        }

        /** The length of the way through two operations, if the first one goes ahead of the second one. */
        private int wayThrough(int first, int second) {
            return endOf(first) + duration[second] + tail[second];
        }

        int jobsOn(int onMachine) {
            int set = 0;
            for (int job = 0; job < JOBS; job++) {
                if (on[MACHINES * onMachine + job] >= 0) {
                    set |= 1 << job;
                }
            }
            return set;
        }

        void holdBack(int operation, int time) {
            if (operation >= 0 && operation < OPERATIONS && ready[operation] < time) {
                ready[operation] = time;
            }
        }

        int endOf(int operation) {
            return head[operation] + duration[operation];
        }

        int slackOf(int operation) {
            return longest - (endOf(operation) + tail[operation]);
        }

        int decidedPairs() {
            int pairs = 0;
            for (int i = 0; i < OPERATIONS; i++) {
                for (int job = 0; job < JOBS; job++) {
                    if (on[i] >= 0 && (ahead[on[i]] >> job & 1) != 0) {
                        pairs++;
                    }
                }
            }
            return pairs;
        }

        /** Finds heads, tails and the length; false if there is a way round. */
        boolean measure() {
            sortedSize = 0;
            for (int job = 0; job < JOBS; job++) {
                sortedSteps[job] = 0;
            }
            for (int each = 0; each < MACHINES; each++) {
                sortedOn[each] = 0;
            }
            boolean news = true;
            for (int round = 0; round < OPERATIONS && news; round++) {
                int before = sortedSize;
                for (int job = 0; job < JOBS; job++) {
                    sortAlong(job);
                }
                news = sortedSize > before;
            }
            if (sortedSize < operations) {
                return false;
            }
            longest = 0;
            for (int i = sortedSize - 1; i >= 0; i--) {
                int operation = sorted[i];
                tail[operation] = tailOf(operation);
                int whole = endOf(operation) + tail[operation];
                longest = whole > longest ? whole : longest;
            }
            return true;
        }

        /** Sorts the operations of the job for which nothing ahead is left, and finds their heads. */
        private void sortAlong(int job) {
            while (sortedSteps[job] < steps[job] && sortedSize < OPERATIONS) {
                int operation = STEPS * job + sortedSteps[job];
                int onMachine = machine[operation];
                if ((ahead[operation] & ~sortedOn[onMachine]) != 0) {
                    return;
                }
                head[operation] = headOf(operation);
                sorted[sortedSize] = operation;
                sortedSize++;
                sortedOn[onMachine] |= 1 << job;
                sortedSteps[job]++;
            }
        }

        private int headOf(int operation) {
            int greatest = ready[operation];
            if (operation % STEPS > 0) {
                int end = head[operation - 1] + duration[operation - 1];
                greatest = end > greatest ? end : greatest;
            }
            int jobsAhead = ahead[operation];
            for (int job = 0; jobsAhead != 0 && job < JOBS; job++) {
                if ((jobsAhead >> job & 1) != 0) {
                    int other = on[MACHINES * machine[operation] + job];
                    int end = other >= 0 ? head[other] + duration[other] : 0;
                    greatest = end > greatest ? end : greatest;
                }
            }
            return greatest;
        }

        private int tailOf(int operation) {
            int job = operation / STEPS;
            int greatest = 0;
            if (operation % STEPS + 1 < steps[job]) {
                greatest = duration[operation + 1] + tail[operation + 1];
            }
            for (int other = 0; other < JOBS; other++) {
                int behind = on[MACHINES * machine[operation] + other];
                if (behind >= 0 && (ahead[behind] >> job & 1) != 0) {
                    int way = duration[behind] + tail[behind];
                    greatest = way > greatest ? way : greatest;
                }
            }
            return greatest;
        }

        /** Decides all orders that the limit forces; false if the limit cannot be kept. */
        boolean keeps(int limit) {
            // Every round but the last one decides a pair.
            for (int round = 0; round <= PAIRS; round++) {
                if (!measure() || longest > limit) {
                    return false;
                }
                int news = 0;
                for (int each = 0; each < MACHINES; each++) {
                    int here = forceOn(each, limit);
                    if (here == NOT_POSSIBLE) {
                        return false;
                    }
                    news += here;
                }
                if (news == 0) {
                    return true;
                }
            }
            return false;
        }

        /** Decides the pairs of a machine that heads and tails as they were found force. */
        private int forceOn(int onMachine, int limit) {
            int news = 0;
            for (int one = 0; one < JOBS; one++) {
                for (int other = one + 1; other < JOBS; other++) {
                    int x = on[MACHINES * onMachine + one];
                    int y = on[MACHINES * onMachine + other];
                    // A pair that is decided forces nothing more: the length knows the way through both.
                    if (!undecided(x, y)) {
                        continue;
                    }
                    boolean otherFirst = wayThrough(x, y) > limit;
                    boolean oneFirst = wayThrough(y, x) > limit;
                    if (oneFirst && otherFirst) {
                        return NOT_POSSIBLE;
                    }
                    if (oneFirst) {
                        decide(x, y);
                        news++;
                    } else if (otherFirst) {
                        decide(y, x);
                        news++;
                    }
                }
            }
            return news;
        }

        /**
         * OPERATIONS * first + second for the undecided pair with the longest ways through it, the shorter one
         * of them first; NONE if all pairs are decided.
         */
        int longestPair() {
            int chosen = NONE;
            int greatest = 0;
            for (int i = 0; i < OPERATIONS; i++) {
                int one = on[i];
                for (int j = i + 1; j < OPERATIONS && j % JOBS > 0; j++) {
                    int other = on[j];
                    if (undecided(one, other)) {
                        int way = wayThrough(one, other);
                        int back = wayThrough(other, one);
                        if (way + back > greatest) {
                            greatest = way + back;
                            chosen = way <= back ? OPERATIONS * one + other : OPERATIONS * other + one;
                        }
                    }
                }
            }
            return chosen;
        }

        int greatestBound() {
            int greatest = 0;
            for (int each = 0; each < MACHINES; each++) {
                int here = boundOf(each);
                greatest = here > greatest ? here : greatest;
            }
            return greatest;
        }

        /** The bound of a machine that may interrupt operations, by heads and tails as they were found. */
        int boundOf(int onMachine) {
            for (int job = 0; job < JOBS; job++) {
                int operation = on[MACHINES * onMachine + job];
                unfinished[job] = operation >= 0 ? duration[operation] : 0;
            }
            int greatest = 0;
            int time = 0;
            // Every turn but the last one comes to a head or finishes an operation.
            for (int turn = 0; turn <= 2 * JOBS; turn++) {
                int next = nextHead(onMachine, time);
                int job = mostUrgent(onMachine, time);
                if (job == NONE && next == FAR) {
                    break;
                }
                if (job == NONE) {
                    time = next;
                    continue;
                }
                int work = unfinished[job] < next - time ? unfinished[job] : next - time;
                time += work;
                unfinished[job] -= work;
                int operation = on[MACHINES * onMachine + job];
                if (unfinished[job] == 0 && operation >= 0 && time + tail[operation] > greatest) {
                    greatest = time + tail[operation];
                }
            }
            return greatest;
        }

        private int nextHead(int onMachine, int time) {
            int next = FAR;
            for (int job = 0; job < JOBS; job++) {
                int operation = on[MACHINES * onMachine + job];
                if (operation >= 0 && head[operation] > time && head[operation] < next) {
                    next = head[operation];
                }
            }
            return next;
        }

        private int mostUrgent(int onMachine, int time) {
            int chosen = NONE;
            int greatest = -1;
            for (int job = 0; job < JOBS; job++) {
                int operation = on[MACHINES * onMachine + job];
                if (operation >= 0 && unfinished[job] > 0 && head[operation] <= time && tail[operation] > greatest) {
                    chosen = job;
                    greatest = tail[operation];
                }
            }
            return chosen;
        }
    }

    /** The critical path of a plan that is possible. */
    private static final class Path {
        final int[] operations = new int[OPERATIONS];
        int size;

        void trace(Net net, State state) {
            size = 0;
            int operation = first(net, state);
            while (operation != NONE && size < OPERATIONS) {
                operations[size] = operation;
                size++;
                operation = next(net, state, operation);
            }
        }

        private int first(Net net, State state) {
            for (int operation = 0; operation < OPERATIONS; operation++) {
                if (state.hasOperation(operation) && net.slackOf(operation) == 0
                        && net.head[operation] == state.release[operation / STEPS]) {
                    return operation;
                }
            }
            return NONE;
        }

        private int next(Net net, State state, int operation) {
            int end = net.endOf(operation);
            if (operation % STEPS + 1 < state.steps[operation / STEPS] && goesOn(net, operation + 1, end)) {
                return operation + 1;
            }
            int behind = state.nextOnMachine(operation);
            return behind != NONE && goesOn(net, behind, end) ? behind : NONE;
        }

        private boolean goesOn(Net net, int operation, int end) {
            return net.slackOf(operation) == 0 && net.head[operation] == end;
        }

        int placeOf(int operation) {
            for (int place = 0; place < size; place++) {
                if (operations[place] == operation) {
                    return place;
                }
            }
            return NONE;
        }

        int blocks(State state) {
            int blocks = 0;
            for (int place = 0; place < size; place++) {
                if (place == 0 || state.machine[operations[place]] != state.machine[operations[place - 1]]) {
                    blocks++;
                }
            }
            return blocks;
        }
    }

    /** Finds the least length that a net allows, and of the plans with it the first one. */
    private static final class Search {
        final Net net = new Net();
        boolean known;
        int least;
        /** The jobs in the orders of the plan that was found, at MACHINES * machine + place. */
        final int[] found = new int[OPERATIONS];
        /** What is decided for every plan that is still looked for. */
        private final int[] settled = new int[OPERATIONS];
        /** The same with a job at the next place that may be the right one. */
        private final int[] tried = new int[OPERATIONS];
        /** What one plan decides that keeps the limit and all that is settled. */
        private final int[] witness = new int[OPERATIONS];
        /** What was decided when a pair was taken up, by the pairs taken up before it. */
        private final int[][] kept = new int[PAIRS + 1][OPERATIONS];

        void find() {
            if (known) {
                return;
            }
            copyRow(net.ahead, settled);
            net.measure();
            // No plan is shorter than the bound, so the first limit that a plan keeps is the least length.
            least = net.greatestBound();
            while (least < FAR && !complete(this, 0, least)) {
                copyRow(settled, net.ahead);
                least++;
            }
            // What this limit forces holds in every plan that is looked for: the jobs need not be tried against it.
            copyRow(settled, net.ahead);
            net.keeps(least);
            copyRow(net.ahead, settled);
            for (int place = 0; place < OPERATIONS; place++) {
                found[place] = settle(place);
            }
            known = true;
        }

        /** Settles the first job for a place that leaves a plan of the least length; NONE if no job is left for it. */
        private int settle(int place) {
            int machine = place / MACHINES;
            int left = jobsLeft(place);
            copyRow(settled, net.ahead);
            for (int job = 0; job < JOBS; job++) {
                int operation = net.on[MACHINES * machine + job];
                if (operation < 0 || (left >> job & 1) == 0 || (settled[operation] & left) != 0) {
                    continue;
                }
                net.letFirst(machine, job, left & ~(1 << job));
                copyRow(net.ahead, tried);
                if ((witness[operation] & left) == 0 || complete(this, 0, least)) {
                    copyRow(tried, settled);
                    return job;
                }
                copyRow(settled, net.ahead);
            }
            return NONE;
        }

        /** The jobs on the machine of the place that have none of the places ahead of it. */
        private int jobsLeft(int place) {
            int machine = place / MACHINES;
            int left = net.jobsOn(machine);
            for (int earlier = MACHINES * machine; earlier < place; earlier++) {
                if (found[earlier] >= 0) {
                    left &= ~(1 << found[earlier]);
                }
            }
            return left;
        }

        /** Decides all pairs that are not decided so that the limit is kept; false if there is no such way. */
        private static boolean complete(Search search, int pairs, int limit) {
            if (search == null || pairs < 0 || pairs > PAIRS || !search.net.keeps(limit)) {
                return false;
            }
            Net net = search.net;
            int pair = net.longestPair();
            if (pair == NONE) {
                copyRow(net.ahead, search.witness);
                return true;
            }
            int one = pair / OPERATIONS;
            int other = pair % OPERATIONS;
            copyRow(net.ahead, search.kept[pairs]);
            net.decide(one, other);
            if (complete(search, pairs + 1, limit)) {
                return true;
            }
            copyRow(search.kept[pairs], net.ahead);
            net.decide(other, one);
            return complete(search, pairs + 1, limit);
        }
    }

    /** The text that is put together, and how it is read. */
    private static final class Pad {
        final char[] text = new char[PAD];
        int length;
        /** What was read stands before it; where reading fails, it is the fault. */
        private int at;
        private int machinesNamed;

        void append(char sign) {
            if (length < PAD) {
                text[length] = sign;
                length++;
            }
        }

        boolean names(int machine) {
            return (machinesNamed >> machine & 1) != 0;
        }

        /** Reads the text as routes into the state; the fault, or NONE. */
        int readRoutes(State state) {
            at = 0;
            state.clear();
            boolean more = true;
            for (int jobs = 1; more && jobs <= JOBS; jobs++) {
                if (!readJob(state)) {
                    return at;
                }
                more = jobs < JOBS && take(';');
            }
            return at == length ? NONE : at;
        }

        private boolean readJob(State state) {
            if (!take('r')) {
                return false;
            }
            int release = number(0, MOST_RELEASE);
            if (release == NONE || !take('d')) {
                return false;
            }
            int due = number(0, MOST_DUE);
            if (due == NONE) {
                return false;
            }
            int job = state.addJob(release, due);
            for (int step = 0; job >= 0 && step < STEPS && take(','); step++) {
                if (!readOperation(state, job)) {
                    return false;
                }
            }
            return true;
        }

        private boolean readOperation(State state, int job) {
            int machine = digit();
            if (machine == NONE || machine >= MACHINES || state.operationOf(job, machine) != NONE) {
                return false;
            }
            at++;
            if (!take('*')) {
                return false;
            }
            int duration = number(1, MOST_DURATION);
            return duration != NONE && state.addOperation(job, machine, duration) >= 0;
        }

        /** Reads the text as a plan into the orders of the state; the fault, or NONE. */
        int readPlan(State state) {
            at = 0;
            machinesNamed = 0;
            state.clear();
            boolean more = true;
            for (int orders = 1; more && orders <= MACHINES; orders++) {
                if (!readOrder(state)) {
                    return at;
                }
                more = orders < MACHINES && take(';');
            }
            return at == length ? NONE : at;
        }

        private boolean readOrder(State state) {
            int machine = digit();
            if (machine == NONE || machine >= MACHINES || names(machine)) {
                return false;
            }
            at++;
            machinesNamed |= 1 << machine;
            if (!take(':')) {
                return false;
            }
            for (int places = 0; places < JOBS && anotherJobFor(state.jobsInOrder(machine)); places++) {
                state.append(machine, digit());
                at++;
            }
            return true;
        }

        /** Whether a job stands next that is not in the set. */
        private boolean anotherJobFor(int set) {
            int job = digit();
            return job >= 0 && job < JOBS && (set >> job & 1) == 0;
        }

        private boolean take(char sign) {
            if (at >= length || at >= PAD || text[at] != sign) {
                return false;
            }
            at++;
            return true;
        }

        /** The digit that stands next, NONE if there is none. */
        private int digit() {
            if (at >= length || at >= PAD || text[at] < '0' || text[at] > '9') {
                return NONE;
            }
            return text[at] - '0';
        }

        /** Reads a number without leading zeros; NONE at a digit by which it would be too small or too great. */
        private int number(int least, int most) {
            int value = digit();
            if (value == NONE || value < least || value > most) {
                return NONE;
            }
            at++;
            // Behind a 0 no digit can follow: whatever is read next refuses it.
            while (value > 0 && at < length && digit() != NONE) {
                value = 10 * value + digit();
                if (value > most) {
                    return NONE;
                }
                at++;
            }
            return value;
        }
    }
}
