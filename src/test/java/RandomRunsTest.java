/**
 * Runs of calls made up by a fixed rule, each answer compared with the Reference. Arguments: how many runs, the number
 * of the first one, and how many plans may be tried at most for one best plan.
 */
public final class RandomRunsTest {
    private static final int CALLS = 512;
    /** Of four jobs on four machines, and of four jobs on three machines. */
    private static final long ALL_PLANS = 331776;
    private static final long SOME_PLANS = 13824;
    private static final int[] WILD = {-1, -2, 4, 5, 16, 17, 51, 201, 401, 501, Integer.MAX_VALUE, Integer.MIN_VALUE};

    private long seed;
    private final long mostPlans;
    private BottleneckShop shop;
    private Reference reference;
    private final StringBuilder told = new StringBuilder();
    private String call;
    private int got;
    private int want;
    private int brokenMachine;
    private int brokenFrom;
    private int brokenUntil;

    private RandomRunsTest(long run, long mostPlans) {
        this.seed = run * 0x9E3779B97F4A7C15L + 12345;
        this.mostPlans = mostPlans;
    }

    private int below(int n) {
        seed = seed * 6364136223846793005L + 1442695040888963407L;
        return (int) ((seed >>> 33) % n);
    }

    /** Mostly from least to most, at times just outside or far away. */
    private int value(int least, int most) {
        if (below(40) == 0) {
            return below(2) == 0 ? least - 1 : most + 1;
        }
        if (below(80) == 0) {
            return WILD[below(WILD.length)];
        }
        return least + below(most - least + 1);
    }

    private int operationNumber() {
        int number = value(0, 15);
        for (int i = 0; i < 6 && below(10) > 0 && !reference.w.hasOp(number); i++) {
            number = below(16);
        }
        return number;
    }

    private void answer(String name, int gotNow, int wantNow) {
        call = name;
        got = gotNow;
        want = wantNow;
    }

    private boolean run(long run) {
        shop = new BottleneckShop();
        reference = new Reference();
        int style = below(4);
        for (int i = 0; i < CALLS; i++) {
            step(style);
            told.append(call).append(" = ").append(got).append('\n');
            if (got != want) {
                System.out.println(told + "run " + run + ": " + call + " answered " + got + ", due is " + want);
                return false;
            }
        }
        return true;
    }

    private void step(int style) {
        boolean smallEnough = reference.w.plans() <= mostPlans;
        switch (below(style == 3 ? 34 : 30)) {
            case 0: case 1: {
                int release = value(0, style == 0 ? 50 : 6), due = value(0, style == 1 ? 200 : 60);
                answer("job(" + release + ", " + due + ")", shop.job(release, due), reference.job(release, due));
                break;
            }
            case 2: case 3: case 4: case 5: {
                int job = value(0, 3), machine = value(0, 3), duration = duration(style);
                answer("operation(" + job + ", " + machine + ", " + duration + ")",
                        shop.operation(job, machine, duration), reference.operation(job, machine, duration));
                break;
            }
            case 6: {
                int op = operationNumber(), duration = duration(style);
                answer("change(" + op + ", " + duration + ")", shop.change(op, duration), reference.change(op, duration));
                break;
            }
            case 7: case 8: {
                int machine = value(0, 3), place = value(0, 2);
                answer("swap(" + machine + ", " + place + ")", shop.swap(machine, place), reference.swap(machine, place));
                break;
            }
            case 9:
                if (smallEnough && below(3) == 0) {
                    answer("takeBest()", shop.takeBest(), reference.takeBest());
                } else {
                    answer("improve()", shop.improve(), reference.improve());
                }
                break;
            case 10:
                answer("length()", shop.length(), reference.length());
                break;
            case 11: case 12: case 13: {
                int op = operationNumber(), what = value(0, 7);
                answer("about(" + op + ", " + what + ")", shop.about(op, what), reference.about(op, what));
                break;
            }
            case 14: {
                int place = value(0, 9);
                answer("path(" + place + ")", shop.path(place), reference.path(place));
                break;
            }
            case 15: {
                int machine = value(0, 3), place = value(0, 3);
                answer("order(" + machine + ", " + place + ")", shop.order(machine, place), reference.order(machine, place));
                break;
            }
            case 16: {
                int job = value(0, 3), what = value(0, 5);
                answer("ofJob(" + job + ", " + what + ")", shop.ofJob(job, what), reference.ofJob(job, what));
                break;
            }
            case 17: case 18: {
                int what = value(0, 9);
                answer("count(" + what + ")", shop.count(what), reference.count(what));
                break;
            }
            case 19: {
                int machine = value(-1, 3);
                answer("bound(" + machine + ")", shop.bound(machine), reference.bound(machine));
                break;
            }
            case 20: {
                int limit = limit();
                answer("forced(" + limit + ")", shop.forced(limit), reference.forced(limit));
                break;
            }
            case 21: case 22: {
                int limit = limit(), one = operationNumber(), other = operationNumber();
                for (int i = 0; i < 8 && reference.isForced(limit, one, other) == -2 && below(10) > 0; i++) {
                    other = operationNumber();
                }
                answer("isForced(" + limit + ", " + one + ", " + other + ")", shop.isForced(limit, one, other),
                        reference.isForced(limit, one, other));
                break;
            }
            case 23: {
                int machine = value(-1, 3), place = value(0, 3);
                if (smallEnough) {
                    answer("best(" + machine + ", " + place + ")", shop.best(machine, place), reference.best(machine, place));
                } else {
                    answer("length()", shop.length(), reference.length());
                }
                break;
            }
            case 24: case 25:
                breakdown(smallEnough);
                break;
            case 26:
                if (below(4) == 0) {
                    answer("undo()", shop.undo(), reference.undo());
                } else if (below(2) == 0) {
                    int slot = value(0, 1);
                    answer("save(" + slot + ")", shop.save(slot), reference.save(slot));
                } else if (below(3) == 0) {
                    int slot = value(0, 1);
                    answer("restore(" + slot + ")", shop.restore(slot), reference.restore(slot));
                } else {
                    answer("count(9)", shop.count(9), reference.count(9));
                }
                break;
            case 27: {
                int kind = value(0, 1);
                answer("fault(" + kind + ")", shop.fault(kind), reference.fault(kind));
                break;
            }
            case 28:
                if (below(6) == 0) {
                    answer("wipe()", shop.wipe(), reference.wipe());
                } else {
                    putOneNumber();
                }
                break;
            default:
                text(style);
                break;
        }
    }

    private int duration(int style) {
        if (style == 2 && below(20) > 0) {
            return below(3) == 0 ? 20 : 1 + below(2);
        }
        return value(1, 20);
    }

    private int limit() {
        int near = Math.max(0, reference.length());
        if (below(3) > 0) {
            near = Math.max(reference.bound(-1), 0) - 1 + below(8);
        } else {
            near -= below(8);
        }
        return below(8) == 0 ? value(0, 500) : near;
    }

    private void breakdown(boolean smallEnough) {
        int machine = value(0, 3);
        int from = below(10) == 0 ? value(0, 200) : below(Math.min(200, Math.max(1, reference.length() + 2)));
        int until = below(10) == 0 ? value(0, 400) : from + below(30);
        int what = value(-1, 15);
        if (below(2) == 0) {
            // The same breakdown as before, or one that differs in one thing.
            int other = below(4);
            machine = other == 0 ? machine : brokenMachine;
            from = other == 1 ? from : brokenFrom;
            until = other == 2 ? until : brokenUntil;
        }
        brokenMachine = machine;
        brokenFrom = from;
        brokenUntil = until;
        if (!smallEnough) {
            machine = 4;
        }
        answer("breakdown(" + machine + ", " + from + ", " + until + ", " + what + ")",
                shop.breakdown(machine, from, until, what), reference.breakdown(machine, from, until, what));
    }

    private void putOneNumber() {
        long characters = 0;
        int signs = below(9);
        for (int i = 0; i < signs; i++) {
            String all = "rd0123456789,*;:";
            int code = below(12) == 0 ? below(256) : all.charAt(below(all.length()));
            characters = characters << 8 | code;
        }
        put(characters);
    }

    private void put(long characters) {
        answer("put(" + characters + ")", shop.put(characters), reference.put(characters));
    }

    /** Wipes the pad, puts a text that is mostly right, and asks for its fault or loads it. */
    private void text(int style) {
        reference.wipe();
        shop.wipe();
        told.append("wipe()\n");
        boolean routes = below(2) == 0;
        StringBuilder text = new StringBuilder(routes ? routes(style) : orders());
        for (int spoil = below(3) == 0 ? 1 + below(2) : 0; spoil > 0 && text.length() > 0; spoil--) {
            int at = below(text.length());
            String all = "rd0123456789,*;:";
            switch (below(4)) {
                case 0: text.deleteCharAt(at); break;
                case 1: text.setCharAt(at, all.charAt(below(all.length()))); break;
                case 2: text.insert(at, all.charAt(below(all.length()))); break;
                default: text.setLength(at); break;
            }
        }
        for (int at = 0; at < text.length(); ) {
            long characters = 0;
            for (int n = 1 + below(8); n > 0 && at < text.length(); n--) {
                characters = characters << 8 | text.charAt(at++);
            }
            put(characters);
            told.append(call).append(" = ").append(got).append('\n');
            if (got != want) {
                return;
            }
        }
        if (below(2) == 0) {
            int kind = below(2);
            answer("fault(" + kind + ")", shop.fault(kind), reference.fault(kind));
        } else if (routes) {
            answer("loadRoutes()", shop.loadRoutes(), reference.loadRoutes());
        } else {
            answer("loadPlan()", shop.loadPlan(), reference.loadPlan());
        }
    }

    private String routes(int style) {
        StringBuilder text = new StringBuilder();
        int jobs = 1 + below(below(5) == 0 ? 5 : 4);
        for (int j = 0; j < jobs; j++) {
            text.append(j > 0 ? ";r" : "r").append(below(20) == 0 ? value(0, 50) : below(10)).append('d');
            text.append(below(20) == 0 ? below(210) : below(60));
            int used = 0;
            int steps = below(6) == 0 ? below(6) : 2 + below(2);
            for (int i = 0; i < steps; i++) {
                int machine = below(4);
                if ((used >> machine & 1) != 0 && below(20) > 0) {
                    continue;
                }
                used |= 1 << machine;
                int duration = below(25) == 0 ? below(25) : style == 2 ? 1 + below(2) : 1 + below(20);
                text.append(',').append(machine).append('*').append(duration);
            }
        }
        return text.toString();
    }

    private String orders() {
        StringBuilder text = new StringBuilder();
        int used = 0;
        int orders = 1 + below(below(5) == 0 ? 6 : 4);
        for (int i = 0; i < orders; i++) {
            int machine = below(4);
            if ((used >> machine & 1) != 0 && below(10) > 0) {
                continue;
            }
            used |= 1 << machine;
            text.append(i > 0 ? ";" : "").append(machine).append(':');
            java.util.List<Integer> jobs = new java.util.ArrayList<>(reference.w.orders.get(machine));
            while (!jobs.isEmpty()) {
                text.append(jobs.remove(below(jobs.size())));
            }
            if (below(15) == 0) {
                text.append(below(4));
            }
        }
        return text.toString();
    }

    public static void main(String[] args) {
        int runs = args.length > 0 ? Integer.parseInt(args[0]) : 400;
        int first = args.length > 1 ? Integer.parseInt(args[1]) : 0;
        long asked = args.length > 2 ? Long.parseLong(args[2]) : 0;
        int wrong = 0;
        for (int run = first; run < first + runs && wrong < 3; run++) {
            long plans = asked > 0 ? asked : run % 20 == 0 ? ALL_PLANS : SOME_PLANS;
            if (!new RandomRunsTest(run, plans).run(run)) {
                wrong++;
            }
        }
        System.out.println(wrong == 0 ? runs + " runs are as the reference" : wrong + " runs are not as the reference");
        if (wrong != 0) {
            System.exit(1);
        }
    }
}
