/** Workshops with 4 jobs of 4 operations each, made up by a fixed rule, and all answers compared with the Reference. */
public final class FullShopsTest {
    private static final int SHOPS = 60;

    private long seed;
    private BottleneckShop shop;
    private Reference reference;
    private int asked = 0;
    private int wrong = 0;

    private int below(int n) {
        seed = seed * 6364136223846793005L + 1442695040888963407L;
        return (int) ((seed >>> 33) % n);
    }

    private void due(String call, int got, int want) {
        asked++;
        if (got != want) {
            wrong++;
            System.out.println(call + " answered " + got + ", due is " + want);
        }
    }

    /** Every third one has many plans that are as long, every other third one has late releases. */
    private void make(int number) {
        seed = number * 0x9E3779B97F4A7C15L + 99;
        shop = new BottleneckShop();
        reference = new Reference();
        for (int job = 0; job < 4; job++) {
            int release = number % 3 == 1 ? below(51) : 0;
            int date = below(201);
            due("job", shop.job(release, date), reference.job(release, date));
            int[] machines = {0, 1, 2, 3};
            for (int step = 0; step < 4; step++) {
                int other = step + below(4 - step);
                int machine = machines[other];
                machines[other] = machines[step];
                int duration = number % 3 == 0 ? 1 + below(2) : 1 + below(20);
                due("operation", shop.operation(job, machine, duration), reference.operation(job, machine, duration));
            }
        }
    }

    private void askAboutThePlan() {
        due("length", shop.length(), reference.length());
        for (int operation = 0; operation < 16; operation++) {
            for (int what = 0; what < 8; what++) {
                due("about(" + operation + ", " + what + ")", shop.about(operation, what), reference.about(operation, what));
            }
            due("path(" + operation + ")", shop.path(operation), reference.path(operation));
            due("order", shop.order(operation / 4, operation % 4), reference.order(operation / 4, operation % 4));
        }
        for (int job = 0; job < 4; job++) {
            due("end of " + job, shop.ofJob(job, 4), reference.ofJob(job, 4));
            due("lateness of " + job, shop.ofJob(job, 5), reference.ofJob(job, 5));
        }
        for (int what = 0; what < 10; what++) {
            due("count(" + what + ")", shop.count(what), reference.count(what));
        }
    }

    private void askAboutTheBest() {
        int least = reference.best(-1, 0);
        for (int machine = -1; machine < 4; machine++) {
            due("bound(" + machine + ")", shop.bound(machine), reference.bound(machine));
            for (int place = 0; place < 4; place++) {
                due("best(" + machine + ", " + place + ")", shop.best(machine, place), reference.best(machine, place));
            }
        }
        for (int limit = least - 2; limit < least + 4; limit++) {
            due("forced(" + limit + ")", shop.forced(limit), reference.forced(limit));
            int one = below(16);
            int other = below(16);
            due("isForced", shop.isForced(limit, one, other), reference.isForced(limit, one, other));
        }
    }

    private void breakDown() {
        int machine = below(4);
        int from = below(Math.min(200, reference.length() + 2));
        int until = from + below(30);
        for (int what : new int[] {-1, below(16), 12 + below(4)}) {
            due("breakdown(" + machine + ", " + from + ", " + until + ", " + what + ")",
                    shop.breakdown(machine, from, until, what), reference.breakdown(machine, from, until, what));
        }
    }

    private void run() {
        for (int number = 0; number < SHOPS; number++) {
            make(number);
            askAboutThePlan();
            askAboutTheBest();
            due("improve", shop.improve(), reference.improve());
            breakDown();
            due("takeBest", shop.takeBest(), reference.takeBest());
            askAboutThePlan();
            breakDown();
            due("undo", shop.undo(), reference.undo());
            due("length", shop.length(), reference.length());
        }
    }

    public static void main(String[] args) {
        FullShopsTest test = new FullShopsTest();
        test.run();
        System.out.println(SHOPS + " full workshops, " + test.asked + " answers, " + test.wrong + " not as the reference");
        if (test.wrong != 0) {
            System.exit(1);
        }
    }
}
