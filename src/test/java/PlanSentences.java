/** Terms, from the jobs to the lateness, and the promises 1 to 13: jobs, plans, and the plan as it is. */
final class PlanSentences extends Sentences {
    private PlanSentences() {
    }

    static void run() {
        numbers();
        orders();
        possible();
        headsAndTails();
        length();
        criticalPath();
        lateness();
        newObject();
        job();
        operation();
        change();
        swap();
        takeBest();
        improve();
        lengthCall();
        about();
        path();
        order();
        ofJob();
        count();
    }

    private static BottleneckShop jobs(int jobs) {
        BottleneckShop shop = new BottleneckShop();
        for (int job = 0; job < jobs; job++) {
            shop.job(0, 0);
        }
        return shop;
    }

    /** Jobs with one operation each, all on machine 2. */
    private static BottleneckShop queue(int jobs) {
        BottleneckShop shop = jobs(jobs);
        for (int job = 0; job < jobs; job++) {
            shop.operation(job, 2, 1);
        }
        return shop;
    }

    private static void numbers() {
        terms("Everything is numbered from 0.");
        BottleneckShop shop = new BottleneckShop();
        due("the first job", shop.job(7, 8), 0);
        due("the first operation", shop.operation(0, 0, 9), 0);
        due("the first place of an order", shop.order(0, 0), 0);
        due("the first place of the path", shop.path(0), 0);
        due("the first place of a fault", Shops.of("r0d0").fault(0), 0);

        terms("There are up to 4 jobs and 4 machines (0 to 3).");
        for (int jobs = 0; jobs < 4; jobs++) {
            due("job " + jobs, jobs(jobs).job(0, 0), jobs);
        }
        due("a fifth job", jobs(4).job(0, 0), TOO_MANY);
        for (int machine = 0; machine < 4; machine++) {
            due("an operation on machine " + machine, jobs(4).operation(3, machine, 1), 12);
            due("the bound of machine " + machine, Shops.full(5).bound(machine), 20);
        }
        due("an operation on machine 4", jobs(4).operation(3, 4, 1), BAD_VALUE);
        due("an operation on machine -1", jobs(4).operation(3, -1, 1), BAD_VALUE);

        terms("A job has a release (0 to 50), a due date (0 to 200), and a route of up to 4 operations, which are done one "
                + "after the other:");
        BottleneckShop edges = new BottleneckShop();
        edges.job(0, 0);
        edges.job(50, 200);
        due("the least release", edges.ofJob(0, 0), 0);
        due("the least due date", edges.ofJob(0, 1), 0);
        due("the greatest release", edges.ofJob(1, 0), 50);
        due("the greatest due date", edges.ofJob(1, 1), 200);
        due("an empty route", edges.ofJob(1, 2), 0);
        BottleneckShop four = Shops.of("r0d0,3*1,2*2,1*3,0*4");
        due("a route of four", four.ofJob(0, 2), 4);
        due("one after the other", Shops.heads(four), "0 1 3 6");
        for (int machine = 0; machine < 4; machine++) {
            due("a fifth operation on machine " + machine, four.operation(0, machine, 1), NOT_POSSIBLE);
        }
        due("still four", four.count(1), 4);

        terms("each has a machine, another one for each operation of the job, and a duration (1 to 20).");
        BottleneckShop again = Shops.of("r0d0,3*1,0*20,2*5;r0d0");
        due("the machine of the first operation", again.operation(0, 3, 1), NOT_POSSIBLE);
        due("the machine of the one in the middle", again.operation(0, 0, 1), NOT_POSSIBLE);
        due("the machine of the last operation", again.operation(0, 2, 1), NOT_POSSIBLE);
        due("the same machine for another job", again.operation(1, 3, 1), 4);
        due("the machine that is left", again.operation(0, 1, 1), 3);
        due("the least duration", again.about(0, 1), 1);
        due("the greatest duration", again.about(1, 1), 20);

        terms("The operation i of the job j has the number 4 * j + i.");
        BottleneckShop full = jobs(4);
        for (int number = 0; number < 16; number++) {
            due("operation " + number, full.operation(number / 4, number % 4, number + 1), number);
        }
        for (int number = 0; number < 16; number++) {
            due("the machine of " + number, full.about(number, 0), number % 4);
            due("the duration of " + number, full.about(number, 1), number + 1);
        }
        due("operation 16", full.about(16, 0), NO_SUCH);
        due("operation -1", full.about(-1, 0), NO_SUCH);
        BottleneckShop gaps = Shops.of("r0d0,0*1,1*1;r0d0;r0d0,0*1,1*1,2*1");
        for (int number = 0; number < 16; number++) {
            boolean there = number < 2 || number >= 8 && number < 11;
            due("with gaps " + number, gaps.about(number, 1), there ? 1 : NO_SUCH);
        }
    }

    private static void orders() {
        terms("A machine can do one operation at a time, without interruption.");
        due("one at a time", Shops.heads(Shops.of("r0d0,0*10;r2d0,0*3")), "0 10");
        BottleneckShop shop = Shops.of("r0d0,0*10,1*1;r2d0,0*3,1*9");
        due("the longest way is not interrupted", shop.length(), 22);
        due("the best plan waits instead", shop.best(-1, 0), 16);
        due("with interruptions", shop.bound(0), 14);

        terms("A plan has, for each machine, an order of the jobs that have an operation on it.");
        due("no jobs", Shops.orders(new BottleneckShop()), "0:;1:;2:;3:");
        due("some jobs", Shops.orders(Shops.of("r0d0,2*1;r0d0;r0d0,2*1,0*1")), "0:2;1:;2:02;3:");
        due("all jobs", Shops.orders(Shops.full(1)), "0:0123;1:0123;2:0123;3:0123");

        terms("When an operation is added to a route, its job is the last one of the order of its machine.");
        BottleneckShop added = jobs(4);
        added.operation(3, 1, 1);
        due("the first one", Shops.order(added, 1), "3");
        added.operation(0, 1, 1);
        due("a lower job", Shops.order(added, 1), "30");
        added.swap(1, 0);
        added.operation(2, 1, 1);
        due("behind exchanged ones", Shops.order(added, 1), "032");
        added.operation(1, 1, 1);
        due("the fourth one", Shops.order(added, 1), "0321");
        due("the others have none", Shops.orders(added), "0:;1:0321;2:;3:");

        terms("Each operation follows the one before it on its route, and the one before it in the order of its machine "
                + "(these, if they exist, are the two before it; in the same way there are two behind it).");
        due("none before and none behind it", Shops.about(Shops.of("r5d0,0*3"), 0), "0 3 0 5 0 0 1 0");
        // Machine 0: 0 to 2, 2 to 5; machine 1: job 0 from 2 to 9, then job 1, on machine 0 until 5.
        BottleneckShop two = Shops.of("r0d0,0*2,1*7;r0d0,0*3,1*4");
        due("with two before it", two.about(5, 3), 9);
        due("with two behind it", two.about(0, 4), 11);
        due("with one behind it on its machine", two.about(1, 4), 4);
        due("with one behind it on its route", two.about(4, 4), 4);
    }

    private static void possible() {
        terms("The plan is possible if there is no way round: no operation follows itself over others.");
        due("no operations", new BottleneckShop().count(7), 1);
        due("two jobs", Shops.crossing().count(7), 1);
        due("a way round of four operations", Shops.impossible().count(7), 0);
        // Each job ends where the next one begins, and the last one where the first one begins.
        BottleneckShop ring = Shops.of("r0d0,0*1,1*1;r0d0,1*1,2*1;r0d0,2*1,3*1;r0d0,3*1,0*1");
        due("a ring that is open", ring.length(), 8);
        due("a way round of eight operations", ring.swap(0, 0), 0);
        due("it has no length", ring.length(), NONE);
        due("a ring that is open elsewhere", ring.swap(2, 0), 1);
        due("its length", ring.length(), 8);
        // The jobs 0 and 3 make a way round, the others stand beside it.
        BottleneckShop beside = Shops.of("r0d0,0*1,1*1;r0d0,2*1;r0d0,2*1;r0d0,1*1,0*1", "0:30");
        due("a way round of some", beside.count(7), 0);
        due("there is no path, not even of the others", beside.about(4, 3), NONE);
    }

    private static void headsAndTails() {
        terms("In a plan that is possible: the head of an operation is the greatest one of the release of its job and, for "
                + "each of the two before it, its head plus its duration.");
        due("the release alone", Shops.of("r50d0,0*1").about(0, 3), 50);
        due("no release", Shops.of("r0d0,0*1").about(0, 3), 0);
        BottleneckShop machine = Shops.of("r0d0,0*5;r4d0,0*1");
        due("the machine is later than the release", machine.about(4, 3), 5);
        machine.change(0, 4);
        due("the machine is as late", machine.about(4, 3), 4);
        machine.change(0, 3);
        due("the release is later than the machine", machine.about(4, 3), 4);
        BottleneckShop route = Shops.of("r0d0,1*5;r2d0,0*3,1*1");
        due("the route is as late as the machine", route.about(5, 3), 5);
        route.change(0, 6);
        due("the machine is later than the route", route.about(5, 3), 6);
        route.change(4, 5);
        due("the route is later than the machine", route.about(5, 3), 7);

        terms("The tail of an operation is the greatest one of 0 and, for each of the two behind it, its duration plus its "
                + "tail.");
        due("none behind it", Shops.of("r9d0,0*5").about(0, 4), 0);
        BottleneckShop tails = Shops.of("r0d0,0*1,1*4;r50d0,0*3");
        due("the route is longer", tails.about(0, 4), 4);
        tails.change(4, 4);
        due("both are as long", tails.about(0, 4), 4);
        tails.change(4, 5);
        due("the machine is longer", tails.about(0, 4), 5);
        due("all tails of a long plan", Shops.tails(Shops.longest()),
                "300 280 260 240 220 200 180 160 140 120 100 80 60 40 20 0");

        terms("Operations begin at their heads.");
        BottleneckShop begin = Shops.of("r0d0,0*3;r0d0,0*4");
        due("it has begun", begin.breakdown(0, 4, 4, -1), 8);
        due("it just begins", begin.breakdown(0, 3, 3, -1), 7);
        due("the end of its job", begin.ofJob(1, 4), 7);
    }

    private static void length() {
        terms("The length of the plan is the greatest head + duration + tail of all operations (0 if there are none).");
        due("no jobs", new BottleneckShop().length(), 0);
        due("jobs without operations", Shops.of("r50d0;r50d200").length(), 0);
        due("one operation, the least one", Shops.of("r0d0,0*1").length(), 1);
        due("the release of a job with operations", Shops.of("r50d0;r7d0,0*3").length(), 10);
        due("the first job is the greatest", Shops.of("r0d0,0*9;r0d0,1*8").length(), 9);
        due("the last job is the greatest", Shops.of("r0d0,0*8;r0d0,1*9").length(), 9);
        due("the longest plan of all", Shops.longest().length(), 370);
        due("the full workshop, as it was added", Shops.full(1).length(), 10);

        terms("The slack of an operation is the length minus (head + duration + tail); it is critical if its slack is 0.");
        BottleneckShop slack = Shops.of("r0d0,0*5;r0d0,1*4");
        due("a slack of 1", Shops.about(slack, 4), "1 4 0 0 0 1 0 -6");
        due("a slack of 0", Shops.about(slack, 0), "0 5 0 0 0 0 1 0");
        slack.change(4, 5);
        due("no slack any more", Shops.about(slack, 4), "1 5 0 0 0 0 1 -6");
    }

    private static void criticalPath() {
        terms("The critical path begins with the lowest critical operation whose head is the release of its job (also if one "
                + "before it ends just then);");
        due("the lowest one of two", Shops.path(Shops.of("r0d0,0*3;r0d0,1*3")), "0");
        due("the lowest one is not critical", Shops.path(Shops.of("r0d0,0*2;r0d0,1*3")), "4");
        due("the lowest one begins later than its release", Shops.path(Shops.of("r0d0,0*3;r0d0,0*3", "0:10")), "4 0");
        due("the lowest one begins later by its route", Shops.path(Shops.of("r0d0,0*1,1*9;r0d0,1*3", "1:10")), "4 1");
        BottleneckShop justThen = Shops.of("r3d0,0*2;r0d0,0*3", "0:10");
        due("one before it ends just then", Shops.path(justThen), "0");
        due("that one is critical, too", Shops.about(justThen, 4), "0 3 0 0 2 0 1 -6");
        due("a release that is late", Shops.path(Shops.of("r0d0,0*3;r9d0,0*3,1*1")), "4 5");

        terms("behind an operation o of it comes, of the two behind o, the one that is critical and whose head is the head of "
                + "o plus the duration of o (if both are, the one on the route of the job);");
        due("both are", Shops.path(Shops.of("r0d0,0*3,1*4;r0d0,0*4")), "0 1");
        due("the one on the route alone", Shops.path(Shops.of("r0d0,0*3,1*5;r0d0,0*4")), "0 1");
        due("the one on the machine alone", Shops.path(Shops.of("r0d0,0*3,1*4;r0d0,0*5")), "0 4");
        // Operation 1 waits for machine 1 until 5, and is critical: but operation 0 ends at 3.
        BottleneckShop waits = Shops.of("r0d0,0*3,1*2;r0d0,0*4;r0d0,1*5", "1:20");
        due("the one on the route is critical, but begins later", Shops.path(waits), "0 4");
        due("which it is", Shops.about(waits, 1), "1 2 1 5 0 0 1 -6");

        terms("it ends when there is none.");
        due("the last place", waits.path(1), 4);
        due("none behind it", waits.path(2), NONE);
        due("the path of nothing", Shops.path(new BottleneckShop()), "");
        due("a path over all", Shops.path(Shops.longest()), "0 1 2 3 4 5 6 7 8 9 10 11 12 13 14 15");
        due("none behind all", Shops.longest().path(16), NONE);

        terms("A block of it is a part of it, as long as possible, of operations on the same machine.");
        due("no operations", new BottleneckShop().count(4), 0);
        due("a single one", Shops.of("r0d0,0*3").count(4), 1);
        due("four on one machine", queue(4).count(4), 1);
        due("one alone, two, one alone on the first machine again", Shops.crossing().count(4), 3);
        due("four on four machines", Shops.of("r0d0,3*1,2*2,1*3,0*4").count(4), 4);
        due("a path of 16: the next job begins where the one before it ends", Shops.longest().count(4), 13);
    }

    private static void lateness() {
        terms("The lateness of a job is the end of its last operation (head plus duration; its release, if its route is "
                + "empty) minus its due date, but at least 0.");
        due("a day ahead", Shops.of("r0d8,0*3,1*4").ofJob(0, 5), 0);
        due("just in time", Shops.of("r0d7,0*3,1*4").ofJob(0, 5), 0);
        due("a day late", Shops.of("r0d6,0*3,1*4").ofJob(0, 5), 1);
        due("far ahead", Shops.of("r0d200,0*3,1*4").ofJob(0, 5), 0);
        due("an empty route, a day ahead", Shops.of("r7d8").ofJob(0, 5), 0);
        due("an empty route, just in time", Shops.of("r7d7").ofJob(0, 5), 0);
        due("an empty route, a day late", Shops.of("r7d6").ofJob(0, 5), 1);
        due("an empty route, as late as can be", Shops.of("r50d0").ofJob(0, 5), 50);
        due("as late as can be", Shops.longest().ofJob(3, 5), 370);
    }

    private static void newObject() {
        of(1, "Creates a workshop without jobs.");
        BottleneckShop shop = new BottleneckShop();
        due("counts", Shops.counts(shop), "0 0 0 0 0 0 0 1 0 0");
        due("orders", Shops.orders(shop), "0:;1:;2:;3:");
        due("job 0", shop.ofJob(0, 0), NO_SUCH);
        due("operation 0", shop.about(0, 0), NO_SUCH);
        due("an operation of job 0", shop.operation(0, 0, 1), NO_SUCH);
        due("the path", shop.path(0), NONE);
        due("a swap", shop.swap(0, 0), NO_SUCH);
        due("an improvement", shop.improve(), NOT_POSSIBLE);
        due("an undo", shop.undo(), NOT_POSSIBLE);
        due("slot 0", shop.restore(0), NOT_POSSIBLE);
        due("slot 1", shop.restore(1), NOT_POSSIBLE);
        BottleneckShop other = Shops.crossing();
        due("another object is another workshop", new BottleneckShop().count(0) + other.count(0), 2);
    }

    private static void job() {
        of(2, "Adds a job with an empty route.");
        due("its route", jobs(1).ofJob(0, 2), 0);
        due("its work", jobs(1).ofJob(0, 3), 0);
        BottleneckShop after = Shops.full(3);
        after.undo();
        Shops.put(after, "r1d2");
        after.loadRoutes();
        due("where there was a job before", after.job(3, 4), 1);
        due("its route is empty, too", after.ofJob(1, 2), 0);
        due("no operation is left", after.about(4, 0), NO_SUCH);

        of(2, "This is a change.");
        due("one more state", jobs(3).count(9), 3);

        of(2, "`release`: 0 to 50");
        range("release", 0, 50, BAD_VALUE, release -> new BottleneckShop().job(release, 7), release -> 0);
        range("release kept:", 0, 50, NO_SUCH, release -> {
            BottleneckShop shop = new BottleneckShop();
            shop.job(release, 7);
            return shop.ofJob(0, 0);
        }, release -> release);

        of(2, "`due`: 0 to 200");
        range("due", 0, 200, BAD_VALUE, date -> new BottleneckShop().job(7, date), date -> 0);
        range("due kept:", 0, 200, NO_SUCH, date -> {
            BottleneckShop shop = new BottleneckShop();
            shop.job(7, date);
            return shop.ofJob(0, 1);
        }, date -> date);

        of(2, "Returns its number;");
        for (int jobs = 0; jobs < 4; jobs++) {
            due("with " + jobs + " jobs", jobs(jobs).job(50, 200), jobs);
        }

        of(2, "BAD_VALUE if an argument is out of range;");
        due("the first one", new BottleneckShop().job(51, 200), BAD_VALUE);
        due("the second one", new BottleneckShop().job(50, 201), BAD_VALUE);
        due("both", new BottleneckShop().job(-1, -1), BAD_VALUE);
        due("out of range, and there are 4 jobs", jobs(4).job(50, 201), BAD_VALUE);
        due("out of range, and there are 4 jobs", jobs(4).job(-1, 0), BAD_VALUE);

        of(2, "TOO_MANY if there are 4 jobs.");
        due("with 3 jobs", jobs(3).job(0, 0), 3);
        due("with 4 jobs", jobs(4).job(0, 0), TOO_MANY);
        due("with 4 jobs with 4 operations", Shops.full(1).job(50, 200), TOO_MANY);
        BottleneckShop loaded = Shops.of("r0d0;r0d0;r0d0;r0d0");
        due("with 4 jobs of a text", loaded.job(0, 0), TOO_MANY);
        loaded.undo();
        due("with none after undo", loaded.job(0, 0), 0);
    }

    private static void operation() {
        of(3, "Adds an operation at the end of a route.");
        BottleneckShop shop = jobs(2);
        shop.operation(1, 3, 4);
        shop.operation(1, 0, 20);
        due("two operations", shop.ofJob(1, 2), 2);
        due("the first one", shop.about(4, 0), 3);
        due("the second one", shop.about(5, 0), 0);
        due("the other route", shop.ofJob(0, 2), 0);

        of(3, "This is a change.");
        due("changes", shop.count(9), 4);

        of(3, "`machine`: 0 to 3");
        range("machine", 0, 3, BAD_VALUE, machine -> jobs(1).operation(0, machine, 1), machine -> 0);
        range("machine kept:", 0, 3, NO_SUCH, machine -> {
            BottleneckShop one = jobs(1);
            one.operation(0, machine, 1);
            return one.about(0, 0);
        }, machine -> machine);

        of(3, "`duration`: 1 to 20");
        range("duration", 1, 20, BAD_VALUE, duration -> jobs(1).operation(0, 0, duration), duration -> 0);
        range("duration kept:", 1, 20, NO_SUCH, duration -> {
            BottleneckShop one = jobs(1);
            one.operation(0, 0, duration);
            return one.about(0, 1);
        }, duration -> duration);

        of(3, "Returns its number;");
        due("the first one of all", jobs(1).operation(0, 0, 1), 0);
        due("the last one of all", Shops.of("r0d0;r0d0;r0d0;r0d0,0*1,1*1,2*1").operation(3, 3, 1), 15);

        of(3, "NO_SUCH if there is no such job;");
        for (int jobs = 0; jobs < 5; jobs++) {
            BottleneckShop some = jobs(jobs);
            if (jobs > 0) {
                range("job", 0, jobs - 1, NO_SUCH, job -> some.operation(job, 0, 1), job -> 4 * job);
            } else {
                due("job 0 of none", some.operation(0, 0, 1), NO_SUCH);
            }
        }
        due("no job, and bad values", jobs(2).operation(2, 4, 21), NO_SUCH);

        of(3, "BAD_VALUE if machine or duration is out of range;");
        due("the machine", jobs(1).operation(0, 4, 20), BAD_VALUE);
        due("the duration", jobs(1).operation(0, 3, 21), BAD_VALUE);
        due("both", jobs(1).operation(0, -1, 0), BAD_VALUE);
        due("a bad duration, and the machine is taken", queue(1).operation(0, 2, 0), BAD_VALUE);
        due("a bad machine, and the route is full", Shops.full(1).operation(0, 4, 1), BAD_VALUE);

        of(3, "NOT_POSSIBLE if the job has an operation on this machine.");
        due("it has", queue(2).operation(1, 2, 20), NOT_POSSIBLE);
        due("it has none there", queue(2).operation(1, 1, 20), 5);
        due("another job has", Shops.of("r0d0,2*1;r0d0").operation(1, 2, 20), 4);
        for (int machine = 0; machine < 4; machine++) {
            due("it has one on all", Shops.full(1).operation(2, machine, 1), NOT_POSSIBLE);
        }
    }

    private static void change() {
        of(4, "Changes a duration.");
        BottleneckShop shop = Shops.crossing();
        shop.change(4, 9);
        due("the duration then", shop.about(4, 1), 9);
        due("another one", shop.about(5, 1), 5);
        due("the length then", shop.length(), 24);
        BottleneckShop full = Shops.full(20);
        full.change(15, 1);
        due("the last one", full.about(15, 1), 1);
        due("the one before it", full.about(14, 1), 20);
        due("the sum", full.count(2), 301);

        of(4, "This is a change.");
        due("changes", shop.count(9), 2);
        shop.change(4, 9);
        due("also to what it is", shop.count(9), 3);

        of(4, "`duration`: 1 to 20");
        range("duration", 1, 20, BAD_VALUE, duration -> Shops.crossing().change(5, duration), duration -> 5);
        range("duration kept:", 1, 20, 5, duration -> {
            BottleneckShop one = Shops.crossing();
            one.change(5, duration);
            return one.about(5, 1);
        }, duration -> duration);

        of(4, "Returns the previous duration;");
        due("from 9", shop.change(4, 20), 9);
        due("from 20", shop.change(4, 1), 20);
        due("from 1", shop.change(4, 1), 1);

        of(4, "NO_SUCH if there is no such operation;");
        range("operation of all", 0, 15, NO_SUCH, operation -> Shops.full(6).change(operation, 2), operation -> 6);
        for (int operation = 0; operation < 16; operation++) {
            due("of two with two " + operation, Shops.crossing().change(operation, 2),
                    operation < 8 && operation % 4 < 2 ? 5 : NO_SUCH);
        }
        due("there are none", new BottleneckShop().change(0, 1), NO_SUCH);
        due("no operation, and a bad duration", shop.change(2, 0), NO_SUCH);

        of(4, "BAD_VALUE if duration is out of range.");
        due("0", shop.change(0, 0), BAD_VALUE);
        due("21", shop.change(0, 21), BAD_VALUE);
    }

    private static void swap() {
        of(5, "Exchanges a job in the order of a machine with the one behind it.");
        String[] then = {"1023", "0213", "0132"};
        for (int place = 0; place < 3; place++) {
            BottleneckShop shop = queue(4);
            due("swap", shop.swap(2, place), 1);
            due("the order then", Shops.order(shop, 2), then[place]);
        }
        BottleneckShop full = Shops.full(1);
        full.swap(3, 2);
        due("the other machines keep theirs", Shops.orders(full), "0:0123;1:0123;2:0123;3:0132");

        of(5, "This is a change.");
        due("changes", Shops.impossible().count(9), 2);

        of(5, "`place`: the place of the first one");
        for (int jobs = 2; jobs <= 4; jobs++) {
            int all = jobs;
            range("place, of " + jobs, 0, jobs - 2, NO_SUCH, place -> queue(all).swap(2, place), place -> 1);
        }

        of(5, "Returns 1 if the plan is possible then, 0 if not;");
        BottleneckShop shop = Shops.crossing();
        due("each job first on its first machine", shop.swap(1, 0), 1);
        due("job 1 first on both", shop.swap(0, 0), 1);
        due("each job first on its last machine", shop.swap(1, 0), 0);
        due("still a way round elsewhere", Shops.of("r0d0,0*5,1*5;r0d0,1*5,0*5;r0d0,0*1", "0:102").swap(0, 1), 0);

        of(5, "BAD_VALUE if machine is out of range;");
        range("machine", 0, 3, BAD_VALUE, machine -> Shops.full(1).swap(machine, 0));
        range("machine without jobs", 0, 3, BAD_VALUE, machine -> jobs(4).swap(machine, 0), machine -> NO_SUCH);
        due("and no such place", queue(4).swap(4, 3), BAD_VALUE);
        due("and no such place", queue(4).swap(-1, -1), BAD_VALUE);

        of(5, "NO_SUCH if there is no job at this place or behind it.");
        due("there is none", queue(4).swap(1, 0), NO_SUCH);
        due("there is one alone", queue(1).swap(2, 0), NO_SUCH);
        due("the last one of two", queue(2).swap(2, 1), NO_SUCH);
        due("behind the last one of two", queue(2).swap(2, 2), NO_SUCH);
        due("the last one of four", queue(4).swap(2, 3), NO_SUCH);
        due("behind the last one of four", queue(4).swap(2, 4), NO_SUCH);
        due("ahead of the first one", queue(4).swap(2, -1), NO_SUCH);
        // Rows of machines that lie one behind the other must not be mixed up.
        due("ahead of machine 1", Shops.full(1).swap(1, -1), NO_SUCH);
        due("behind machine 1", Shops.full(1).swap(1, 3), NO_SUCH);
    }

    private static void takeBest() {
        of(6, "Takes the best plan.");
        BottleneckShop shop = Shops.impossible();
        shop.takeBest();
        due("its orders", Shops.orders(shop), "0:01;1:10;2:;3:");
        due("its length", shop.length(), 10);
        BottleneckShop full = Shops.full(20);
        full.takeBest();
        due("of a full workshop", Shops.orders(full), "0:0321;1:1032;2:2103;3:3210");
        BottleneckShop none = new BottleneckShop();
        none.takeBest();
        due("of nothing", Shops.orders(none), "0:;1:;2:;3:");

        of(6, "This is a change.");
        due("changes", shop.count(9), 3);
        shop.takeBest();
        due("also when it is the best one already", shop.count(9), 4);
        due("also when there are no jobs", none.count(9), 1);

        of(6, "Returns its length.");
        due("of two jobs", Shops.crossing().takeBest(), 10);
        due("of a plan that was not possible", Shops.impossible().takeBest(), 10);
        due("of the best one", shop.takeBest(), 10);
        due("of nothing", new BottleneckShop().takeBest(), 0);
        due("of jobs without operations", Shops.of("r50d0").takeBest(), 0);
        due("of a full workshop", Shops.full(20).takeBest(), 80);
        due("of the least full workshop", Shops.full(1).takeBest(), 4);
    }

    private static void improve() {
        of(7, "Makes the plan shorter by one swap: of all swaps of neighbours in the order of a machine that are both "
                + "on the critical path, one directly behind the other, the one that makes the length least (and the plan "
                + "possible),");
        BottleneckShop shop = Shops.crossing();
        due("one swap", shop.improve(), 10);
        due("the orders then", Shops.orders(shop), "0:01;1:10;2:;3:");
        // On the path 0, 4, 8, 9: 8 ahead of 4 makes 13, 4 ahead of 0 leaves 19.
        BottleneckShop second = Shops.of("r0d0,0*3;r0d0,0*6;r0d0,0*2,1*8");
        due("the second swap along the path", second.improve(), 13);
        due("its order", Shops.order(second, 0), "021");
        // On the path 0, 4, 5, 8: 4 ahead of 0 makes 14, 8 ahead of 5 makes 16.
        BottleneckShop first = Shops.of("r0d0,0*5;r0d0,0*2,1*9;r0d0,1*3");
        due("the first swap along the path", first.improve(), 14);
        due("its orders", Shops.orders(first), "0:10;1:12;2:;3:");
        due("the last two of the path", Shops.of("r9d0,0*3;r0d0,0*3").improve(), 12);
        // Operation 4 is critical, but the path goes from 0 to 1.
        due("neighbours that are critical, but not on the path", Shops.of("r0d0,0*3,1*4;r0d0,0*4").improve(), NOT_POSSIBLE);

        of(7, "if that is less than now;");
        due("as long as now", Shops.of("r0d0,0*3;r0d0,0*3").improve(), NOT_POSSIBLE);
        due("longer than now", Shops.of("r0d0,0*3,1*1;r0d0,0*3").improve(), NOT_POSSIBLE);
        due("shorter by 1", Shops.of("r0d0,0*1;r0d0,0*3,1*5").improve(), 8);
        due("longer by a release", Shops.of("r0d0,0*3;r3d0,0*3").improve(), NOT_POSSIBLE);

        of(7, "of several the first one along the path.");
        // The path 0, 4, 5, 8, 9 is 6 long; 4 ahead of 0, and 8 ahead of 5 as well, make it 4.
        BottleneckShop alike = Shops.of("r0d0,0*2;r0d0,0*1,1*1;r0d0,1*1,2*1");
        due("two swaps make the same", alike.improve(), 4);
        due("the first one is taken", Shops.orders(alike), "0:10;1:12;2:2;3:");
        BottleneckShop other = Shops.of("r0d0,3*2;r0d0,3*1,1*1;r0d0,1*1,2*1");
        due("with a higher machine first", other.improve(), 4);
        due("the first one is taken again", Shops.orders(other), "0:;1:12;2:2;3:10");

        of(7, "This is a change.");
        due("changes", shop.count(9), 2);

        of(7, "Returns the length then;");
        due("the same as length", second.improve(), 11);
        due("length", second.length(), 11);

        of(7, "NOT_POSSIBLE if the plan is not possible, or there is no such swap.");
        due("not possible", Shops.impossible().improve(), NOT_POSSIBLE);
        due("no operations", new BottleneckShop().improve(), NOT_POSSIBLE);
        due("jobs without operations", jobs(4).improve(), NOT_POSSIBLE);
        due("one operation", queue(1).improve(), NOT_POSSIBLE);
        due("one job with four", Shops.of("r0d0,3*1,2*2,1*3,0*4").improve(), NOT_POSSIBLE);
        due("the best one", shop.improve(), NOT_POSSIBLE);
        due("no change", shop.count(9), 2);
    }

    private static void lengthCall() {
        of(8, "Returns the length of the plan, NONE if it is not possible.");
        due("possible", Shops.crossing().length(), 20);
        due("not possible", Shops.impossible().length(), NONE);
        due("no operations", new BottleneckShop().length(), 0);
        due("the longest one", Shops.longest().length(), 370);
        BottleneckShop shop = Shops.impossible();
        shop.length();
        shop.undo();
        due("possible again", shop.length(), 20);
    }

    private static void about() {
        of(9, "Returns a number about an operation.");
        // Machine 0: job 0 from 2 to 5, job 1 from 5 to 7; machine 1: job 0 from 5 to 9; machine 2: job 1 from 0 to 1.
        BottleneckShop shop = Shops.of("r2d0,0*3,1*4;r0d0,2*1,0*2");
        due("operation 5", Shops.about(shop, 5), "0 2 1 5 0 2 0 -6");

        of(9, "`what`: 0 its machine, 1 its duration, 2 its place in the order of its machine, 3 its head, 4 its tail, "
                + "5 its slack, 6 whether it is critical (1 or 0), 7 its place on the critical path (NONE if it is not on it)");
        due("the first one of the path", Shops.about(shop, 0), "0 3 0 2 4 0 1 0");
        due("the last one of the path", Shops.about(shop, 1), "1 4 0 5 0 0 1 1");
        due("not on the path", Shops.about(shop, 4), "2 1 0 0 2 6 0 -6");
        due("the last place of an order", queue(4).about(12, 2), 3);
        due("the first operation of the longest plan", Shops.about(Shops.longest(), 0), "0 20 0 50 300 0 1 0");
        due("the last operation of the longest plan", Shops.about(Shops.longest(), 15), "0 20 3 350 0 0 1 15");
        due("critical, and not on the path", Shops.of("r0d0,0*3;r0d0,1*3").about(4, 7), NONE);
        BottleneckShop shorter = Shops.crossing();
        due("on the path", Shops.about(shorter, 4), "1 5 1 10 5 0 1 2");
        shorter.improve();
        due("no longer on the path", Shops.about(shorter, 4), "1 5 0 0 5 0 1 -6");

        of(9, "Returns the number; NO_SUCH if there is no such operation;");
        range("operation of all", 0, 15, NO_SUCH, operation -> Shops.full(6).about(operation, 1), operation -> 6);
        for (int operation = 0; operation < 16; operation++) {
            due("of two with two " + operation, shop.about(operation, 6) == NO_SUCH ? 0 : 1,
                    operation < 8 && operation % 4 < 2 ? 1 : 0);
        }
        due("there are none", new BottleneckShop().about(0, 0), NO_SUCH);
        due("no operation, and a bad what", shop.about(2, 8), NO_SUCH);
        due("no operation, and not possible", Shops.impossible().about(2, 3), NO_SUCH);

        of(9, "BAD_VALUE if what is out of range;");
        range("what", 0, 7, BAD_VALUE, what -> shop.about(0, what));
        due("and not possible", Shops.impossible().about(0, 8), BAD_VALUE);
        due("and not possible", Shops.impossible().about(0, -1), BAD_VALUE);

        of(9, "NONE if what is 3 to 7 and the plan is not possible.");
        due("not possible", Shops.about(Shops.impossible(), 0), "0 5 1 -6 -6 -6 -6 -6");
        due("not possible", Shops.about(Shops.impossible(), 5), "0 5 0 -6 -6 -6 -6 -6");
    }

    private static void path() {
        of(10, "Returns an operation of the critical path.");
        BottleneckShop shop = Shops.crossing();
        due("all of them", Shops.path(shop), "0 1 4 5");
        shop.improve();
        due("after a change", Shops.path(shop), "0 1");
        due("how many after a change", shop.count(3), 2);
        shop.undo();
        due("after undo", Shops.path(shop), "0 1 4 5");

        of(10, "`place`: its place, 0 for the first one");
        range("place of 4", 0, 3, NONE, place -> Shops.crossing().path(place), place -> place / 2 * 4 + place % 2);
        BottleneckShop longest = Shops.longest();
        range("place of 16", 0, 15, NONE, longest::path, place -> place);

        of(10, "Returns the operation; NONE if there are not so many, place is below 0, or the plan is not possible.");
        due("there are none", new BottleneckShop().path(0), NONE);
        due("there is one", queue(1).path(0), 0);
        due("there is but one", queue(1).path(1), NONE);
        due("below 0", queue(1).path(-1), NONE);
        for (int place = -1; place < 5; place++) {
            due("not possible", Shops.impossible().path(place), NONE);
        }
    }

    private static void order() {
        of(11, "Returns the job at a place of the order of a machine.");
        BottleneckShop shop = Shops.of("r0d0,2*1;r0d0;r0d0,2*1,0*1", "2:20");
        due("machine 2", Shops.order(shop, 2), "20");
        due("of a plan that is not possible", Shops.orders(Shops.impossible()), "0:10;1:01;2:;3:");

        of(11, "`machine`: 0 to 3");
        range("machine", 0, 3, BAD_VALUE, machine -> Shops.full(1).order(machine, 1), machine -> 1);

        of(11, "Returns the job; BAD_VALUE if machine is out of range;");
        due("and no place", shop.order(4, -1), BAD_VALUE);
        due("and no place", shop.order(-1, 4), BAD_VALUE);

        of(11, "NONE if there are not so many, or place is below 0.");
        due("there are none", shop.order(1, 0), NONE);
        range("place of 1", 0, 0, NONE, place -> shop.order(0, place), place -> 2);
        range("place of 2", 0, 1, NONE, place -> shop.order(2, place), place -> 2 - 2 * place);
        for (int machine = 0; machine < 4; machine++) {
            int each = machine;
            range("place of 4", 0, 3, NONE, place -> Shops.full(1).order(each, place), place -> place);
        }
    }

    private static void ofJob() {
        of(12, "Returns a number about a job.");
        BottleneckShop shop = Shops.of("r2d5,0*3,1*4;r7d4");
        due("the end of job 0", shop.ofJob(0, 4), 9);

        of(12, "`what`: 0 its release, 1 its due date, 2 the number of its operations, 3 the sum of their durations, 4 "
                + "its end, 5 its lateness");
        int[] first = {2, 5, 2, 7, 9, 4};
        int[] second = {7, 4, 0, 0, 7, 3};
        int[] last = {50, 0, 4, 80, 370, 370};
        for (int what = 0; what < 6; what++) {
            due("of the first job " + what, shop.ofJob(0, what), first[what]);
            due("of a job with an empty route " + what, shop.ofJob(1, what), second[what]);
            due("of the last job of the longest plan " + what, Shops.longest().ofJob(3, what), last[what]);
        }

        of(12, "Returns the number; NO_SUCH if there is no such job;");
        due("there are none", new BottleneckShop().ofJob(0, 0), NO_SUCH);
        for (int jobs = 1; jobs <= 4; jobs++) {
            BottleneckShop some = jobs(jobs);
            range("job of " + jobs, 0, jobs - 1, NO_SUCH, job -> some.ofJob(job, 5), job -> 0);
        }
        due("no job, and a bad what", shop.ofJob(2, 6), NO_SUCH);
        due("no job, and not possible", Shops.impossible().ofJob(2, 4), NO_SUCH);

        of(12, "BAD_VALUE if what is out of range;");
        range("what", 0, 5, BAD_VALUE, what -> shop.ofJob(0, what), what -> first[what]);
        due("and not possible", Shops.impossible().ofJob(0, 6), BAD_VALUE);
        due("and not possible", Shops.impossible().ofJob(0, -1), BAD_VALUE);

        of(12, "NONE if what is 4 or 5 and the plan is not possible.");
        BottleneckShop round = Shops.impossible();
        round.job(3, 1);
        int[] impossible = {0, 10, 2, 10, NONE, NONE};
        int[] empty = {3, 1, 0, 0, NONE, NONE};
        for (int what = 0; what < 6; what++) {
            due("of a job on the way round " + what, round.ofJob(1, what), impossible[what]);
            due("of a job with an empty route " + what, round.ofJob(2, what), empty[what]);
        }
    }

    private static void count() {
        of(13, "Returns a number about the workshop.");
        BottleneckShop shop = Shops.crossing();
        Shops.put(shop, "rd");
        due("all counts", Shops.counts(shop), "2 4 20 4 3 10 10 1 2 1");

        of(13, "`what`: 0 jobs, 1 operations, 2 the sum of all durations, 3 the number of operations on the critical "
                + "path, 4 the number of its blocks, 5 the sum of all lateness, 6 the greatest lateness");
        due("of nothing", Shops.counts(new BottleneckShop()), "0 0 0 0 0 0 0 1 0 0");
        due("of jobs without operations", Shops.counts(Shops.of("r9d5;r9d9;r9d10")), "3 0 0 0 0 4 4 1 0 1");
        due("of late jobs", Shops.counts(Shops.of("r0d1,0*3;r0d3,0*3,1*3;r9d5")), "3 3 9 3 2 12 6 1 0 1");
        due("of the longest plan", Shops.counts(Shops.longest()), "4 16 320 16 13 1000 370 1 0 6");
        due("of a full workshop", Shops.counts(Shops.full(1)), "4 16 16 10 7 28 10 1 0 6");

        of(13, "(3 to 6: NONE if the plan is not possible),");
        due("not possible", Shops.counts(Shops.impossible()), "2 4 20 -6 -6 -6 -6 0 0 2");

        of(13, "7 whether the plan is possible (1 or 0), 8 the length of the pad, 9 how many changes can be undone");
        due("possible", shop.count(7), 1);
        due("not possible", Shops.impossible().count(7), 0);
        BottleneckShop pad = new BottleneckShop();
        due("an empty pad", pad.count(8), 0);
        Shops.put(pad, Shops.FULL_PAD);
        due("a full pad", pad.count(8), 80);
        BottleneckShop changes = new BottleneckShop();
        for (int i = 0; i <= 8; i++) {
            due("after " + i + " changes", changes.count(9), Math.min(6, i));
            changes.takeBest();
        }

        of(13, "Returns the number; BAD_VALUE if what is out of range.");
        range("what", 0, 9, BAD_VALUE, what -> Shops.crossing().count(what));
        range("what, not possible", 0, 9, BAD_VALUE, what -> Shops.impossible().count(what));
    }
}
