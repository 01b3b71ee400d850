/** For each promise of the document calls whose answers were worked out by hand: ordinary ones, edges, and errors. */
public final class PromisesTest {
    private static final int NO_SUCH = -1, BAD_VALUE = -2, BAD_TEXT = -3, TOO_MANY = -4, NOT_POSSIBLE = -5, NONE = -6;
    private static final int[] FAR_OFF = {Integer.MIN_VALUE, -7, -2, Integer.MAX_VALUE};

    private static int wrong = 0;
    private static int asked = 0;

    private static void due(String call, int got, int want) {
        asked++;
        if (got != want) {
            wrong++;
            System.out.println(call + " answered " + got + ", due is " + want);
        }
    }

    private static void due(String call, int[] got, int... want) {
        due(call + ": how many", got.length, want.length);
        for (int i = 0; i < got.length && i < want.length; i++) {
            due(call + " at " + i, got[i], want[i]);
        }
    }

    private static int[] orders(BottleneckShop shop) {
        int[] all = new int[16];
        for (int i = 0; i < 16; i++) {
            all[i] = shop.order(i / 4, i % 4);
        }
        return all;
    }

    private static int[] orderOf(BottleneckShop shop, int machine) {
        int n = 0;
        while (n < 4 && shop.order(machine, n) != NONE) {
            n++;
        }
        int[] order = new int[n];
        for (int place = 0; place < n; place++) {
            order[place] = shop.order(machine, place);
        }
        return order;
    }

    private static int[] pathOf(BottleneckShop shop) {
        int[] path = new int[Math.max(0, shop.count(3))];
        for (int place = 0; place < path.length; place++) {
            path[place] = shop.path(place);
        }
        due("the place behind the path", shop.path(path.length), NONE);
        return path;
    }

    private static int[] about(BottleneckShop shop, int operation) {
        int[] all = new int[8];
        for (int what = 0; what < 8; what++) {
            all[what] = shop.about(operation, what);
        }
        return all;
    }

    private static int[] counts(BottleneckShop shop) {
        int[] all = new int[10];
        for (int what = 0; what < 10; what++) {
            all[what] = shop.count(what);
        }
        return all;
    }

    private static int[] repaired(BottleneckShop shop, int machine, int from, int until, int of) {
        int n = orderOf(shop, of).length;
        int[] all = new int[n];
        for (int place = 0; place < n; place++) {
            all[place] = shop.breakdown(machine, from, until, 4 * of + place);
        }
        return all;
    }

    private static void newObject() {
        BottleneckShop shop = new BottleneckShop();
        due("count of a new one", counts(shop), 0, 0, 0, 0, 0, 0, 0, 1, 0, 0);
        due("length of a new one", shop.length(), 0);
        due("order of a new one", shop.order(0, 0), NONE);
        due("path of a new one", shop.path(0), NONE);
        due("undo of a new one", shop.undo(), NOT_POSSIBLE);
        due("restore of a new one", shop.restore(0), NOT_POSSIBLE);
    }

    private static void job() {
        BottleneckShop shop = new BottleneckShop();
        int[][] bad = {{-1, 0}, {51, 0}, {0, -1}, {0, 201}};
        for (int[] each : bad) {
            due("a job out of range", shop.job(each[0], each[1]), BAD_VALUE);
        }
        for (int far : FAR_OFF) {
            due("job(far, 0)", shop.job(far, 0), BAD_VALUE);
            due("job(0, far)", shop.job(0, far), BAD_VALUE);
        }
        due("nothing is recorded by errors", shop.count(9), 0);
        due("job(0, 0)", shop.job(0, 0), 0);
        due("job(50, 200)", shop.job(50, 200), 1);
        due("a third job", shop.job(1, 2), 2);
        due("a fourth job", shop.job(3, 4), 3);
        due("a fifth job", shop.job(0, 0), TOO_MANY);
        due("a fifth job out of range", shop.job(51, 0), BAD_VALUE);
        due("jobs", shop.count(0), 4);
        due("changes", shop.count(9), 4);
        due("its route is empty", shop.ofJob(1, 2), 0);
        due("the release of the second job", shop.ofJob(1, 0), 50);
        due("the due date of the second job", shop.ofJob(1, 1), 200);
    }

    private static void operation() {
        BottleneckShop shop = new BottleneckShop();
        due("without jobs", shop.operation(0, 0, 1), NO_SUCH);
        shop.job(0, 0);
        shop.job(0, 0);
        due("no such job, ahead of bad values", shop.operation(2, 4, 0), NO_SUCH);
        due("a job below 0", shop.operation(-1, 0, 1), NO_SUCH);
        int[][] bad = {{-1, 1}, {4, 1}, {0, 0}, {0, 21}};
        for (int[] each : bad) {
            due("a machine or duration out of range", shop.operation(0, each[0], each[1]), BAD_VALUE);
        }
        for (int far : FAR_OFF) {
            due("operation(far, 0, 1)", shop.operation(far, 0, 1), NO_SUCH);
            due("operation(0, far, 1)", shop.operation(0, far, 1), BAD_VALUE);
            due("operation(0, 0, far)", shop.operation(0, 0, far), BAD_VALUE);
        }
        due("the first one of the second job", shop.operation(1, 3, 20), 4);
        due("the first one of the first job", shop.operation(0, 3, 1), 0);
        due("the next one", shop.operation(0, 0, 2), 1);
        due("the same machine", shop.operation(0, 3, 5), NOT_POSSIBLE);
        due("the same machine and a bad duration", shop.operation(0, 3, 21), BAD_VALUE);
        due("the last one of the order is the job added last", orderOf(shop, 3), 1, 0);
        due("a third one", shop.operation(0, 1, 2), 2);
        due("a fourth one", shop.operation(0, 2, 2), 3);
        due("a fifth one", shop.operation(0, 2, 2), NOT_POSSIBLE);
        due("a fifth one on no machine", shop.operation(0, 4, 2), BAD_VALUE);
        due("operations", shop.count(1), 5);
        due("changes", shop.count(9), 6);
    }

    private static void change() {
        BottleneckShop shop = Shops.crossing();
        due("an operation that is not on the route", shop.change(2, 0), NO_SUCH);
        due("an operation of no job", shop.change(8, 1), NO_SUCH);
        due("an operation below 0", shop.change(-1, 1), NO_SUCH);
        for (int far : FAR_OFF) {
            due("change(far, 1)", shop.change(far, 1), NO_SUCH);
            due("change(0, far)", shop.change(0, far), BAD_VALUE);
        }
        due("operation 16", shop.change(16, 1), NO_SUCH);
        due("duration 0", shop.change(0, 0), BAD_VALUE);
        due("duration 21", shop.change(0, 21), BAD_VALUE);
        due("nothing changed", shop.count(9), 1);
        due("duration 20", shop.change(5, 20), 5);
        due("duration 1", shop.change(5, 1), 20);
        due("the duration then", shop.about(5, 1), 1);
        due("the length then", shop.length(), 16);
        due("the same duration is a change, too", shop.change(5, 1), 1);
        due("changes", shop.count(9), 4);
    }

    private static void swap() {
        BottleneckShop shop = Shops.crossing();
        due("machine 4", shop.swap(4, 0), BAD_VALUE);
        due("machine -1", shop.swap(-1, -1), BAD_VALUE);
        due("the last place", shop.swap(0, 1), NO_SUCH);
        due("a place behind the last one", shop.swap(0, 2), NO_SUCH);
        due("a place below 0", shop.swap(0, -1), NO_SUCH);
        due("a machine without jobs", shop.swap(3, 0), NO_SUCH);
        for (int far : FAR_OFF) {
            due("swap(far, 0)", shop.swap(far, 0), BAD_VALUE);
            due("swap(0, far)", shop.swap(0, far), NO_SUCH);
        }
        due("no change yet", shop.count(9), 1);
        due("a way round", shop.swap(0, 0), 0);
        due("the order then", orderOf(shop, 0), 1, 0);
        due("the other machine, too", shop.swap(1, 0), 1);
        due("the length is as before", shop.length(), 20);
        due("changes", shop.count(9), 3);
        BottleneckShop three = Shops.of("r0d0,2*1;r0d0,2*1;r0d0,2*1");
        due("the place in the middle", three.swap(2, 1), 1);
        due("the order of three", orderOf(three, 2), 0, 2, 1);
    }

    private static void takeBest() {
        BottleneckShop none = new BottleneckShop();
        due("the best of nothing", none.takeBest(), 0);
        due("it is a change", none.count(9), 1);
        BottleneckShop shop = Shops.impossible();
        due("its length", shop.takeBest(), 10);
        due("machine 0", orderOf(shop, 0), 0, 1);
        due("machine 1", orderOf(shop, 1), 1, 0);
        due("the length then", shop.length(), 10);
        due("changes", shop.count(9), 3);
        due("again", shop.takeBest(), 10);
        due("again is a change, too", shop.count(9), 4);
        shop.undo();
        shop.undo();
        due("undone", shop.length(), NONE);
        BottleneckShop same = Shops.of("r0d0,1*3;r0d0,1*3;r0d0,1*3", "1:201");
        due("all plans are as long", same.takeBest(), 9);
        due("the first one by the numbers", orderOf(same, 1), 0, 1, 2);
    }

    private static void improve() {
        due("nothing to improve", new BottleneckShop().improve(), NOT_POSSIBLE);
        due("not possible", Shops.impossible().improve(), NOT_POSSIBLE);
        BottleneckShop shop = Shops.crossing();
        due("one swap", shop.improve(), 10);
        due("the length then", shop.length(), 10);
        due("machine 0 keeps its order", orderOf(shop, 0), 0, 1);
        due("machine 1 does not", orderOf(shop, 1), 1, 0);
        due("changes", shop.count(9), 2);
        due("no better one", shop.improve(), NOT_POSSIBLE);
        due("no change", shop.count(9), 2);
        BottleneckShop alike = Shops.of("r0d0,0*3;r0d0,0*3");
        due("a swap that is as long", alike.improve(), NOT_POSSIBLE);
        // On the path 0, 4, 8, 9: 8 ahead of 4 gives 16, 4 ahead of 0 gives 19 as before.
        BottleneckShop behind = Shops.of("r0d0,0*3;r0d0,0*6;r0d0,0*2,1*8");
        due("the swap that helps", behind.improve(), 13);
        due("the second one along the path", orderOf(behind, 0), 0, 2, 1);
        due("and the first one", behind.improve(), 11);
        due("the order then", orderOf(behind, 0), 2, 0, 1);
        due("the machine is as long as that", behind.improve(), NOT_POSSIBLE);
    }

    private static void length() {
        due("not possible", Shops.impossible().length(), NONE);
        due("two jobs", Shops.crossing().length(), 20);
        due("a release counts", Shops.of("r7d0,0*3").length(), 10);
        due("a job without operations does not", Shops.of("r50d0;r1d0,0*3").length(), 4);
        due("with a gap", Shops.of("r0d0,0*3;r9d0,0*3,1*1").length(), 13);
    }

    private static void about() {
        BottleneckShop shop = Shops.crossing();
        due("operation 0", about(shop, 0), 0, 5, 0, 0, 15, 0, 1, 0);
        due("operation 1", about(shop, 1), 1, 5, 0, 5, 10, 0, 1, 1);
        due("operation 4", about(shop, 4), 1, 5, 1, 10, 5, 0, 1, 2);
        due("operation 5", about(shop, 5), 0, 5, 1, 15, 0, 0, 1, 3);
        BottleneckShop gap = Shops.of("r2d0,0*3,1*4;r0d0,2*1,0*2");
        due("a slack", about(gap, 4), 2, 1, 0, 0, 2, 6, 0, NONE);
        due("behind on the machine", about(gap, 5), 0, 2, 1, 5, 0, 2, 0, NONE);
        due("the first one", about(gap, 0), 0, 3, 0, 2, 4, 0, 1, 0);
        due("an operation that is not there", shop.about(2, 9), NO_SUCH);
        due("an operation below 0", shop.about(-1, 0), NO_SUCH);
        due("operation 16", shop.about(16, 0), NO_SUCH);
        due("what 8", shop.about(0, 8), BAD_VALUE);
        due("what -1", shop.about(0, -1), BAD_VALUE);
        for (int far : FAR_OFF) {
            due("about(far, 0)", shop.about(far, 0), NO_SUCH);
            due("about(0, far)", shop.about(0, far), BAD_VALUE);
        }
        BottleneckShop round = Shops.impossible();
        due("not possible", about(round, 0), 0, 5, 1, NONE, NONE, NONE, NONE, NONE);
        due("not possible and what 8", round.about(0, 8), BAD_VALUE);
    }

    private static void path() {
        due("all four", pathOf(Shops.crossing()), 0, 1, 4, 5);
        due("below 0", Shops.crossing().path(-1), NONE);
        for (int far : FAR_OFF) {
            due("path(far)", Shops.crossing().path(far), NONE);
        }
        due("not possible", Shops.impossible().path(0), NONE);
        due("it begins later than its first release", pathOf(Shops.of("r0d0,0*3;r9d0,0*3,1*1")), 4, 5);
        due("the lowest of two that begin it", pathOf(Shops.of("r0d0,0*3;r0d0,1*3")), 0);
        // Operation 0 ends just when job 1 is released: 4 begins a critical path, too, but 0 is lower.
        due("the lower one ends just then", pathOf(Shops.of("r0d0,0*3;r3d0,0*2")), 0, 4);
        // Now the one that ends just then is the higher one.
        due("the lowest one begins at its release", pathOf(Shops.of("r3d0,0*2;r0d0,0*3", "0:10")), 0);
        // Behind operation 0 both operation 1 and operation 4 go on.
        due("the route goes first", pathOf(Shops.of("r0d0,0*3,1*4;r0d0,0*4")), 0, 1);
        due("the machine, if only that is critical", pathOf(Shops.of("r0d0,0*3,1*4;r0d0,0*5")), 0, 4);
    }

    private static void order() {
        BottleneckShop shop = Shops.of("r0d0,2*1;r0d0;r0d0,2*1,0*1", "2:20");
        due("machine 2", orderOf(shop, 2), 2, 0);
        due("machine 0", orderOf(shop, 0), 2);
        due("machine 1", orderOf(shop, 1));
        due("a place that is not there", shop.order(2, 2), NONE);
        due("a place below 0", shop.order(2, -1), NONE);
        due("machine 4", shop.order(4, -1), BAD_VALUE);
        due("machine -1", shop.order(-1, 0), BAD_VALUE);
        for (int far : FAR_OFF) {
            due("order(far, 0)", shop.order(far, 0), BAD_VALUE);
            due("order(2, far)", shop.order(2, far), NONE);
        }
    }

    private static void ofJob() {
        BottleneckShop shop = Shops.of("r2d5,0*3,1*4;r7d4");
        int[] first = {2, 5, 2, 7, 9, 4};
        int[] second = {7, 4, 0, 0, 7, 3};
        for (int what = 0; what < 6; what++) {
            due("of the first job " + what, shop.ofJob(0, what), first[what]);
            due("of the second job " + what, shop.ofJob(1, what), second[what]);
        }
        due("in time", Shops.of("r0d9,0*3").ofJob(0, 5), 0);
        due("just in time", Shops.of("r0d3,0*3").ofJob(0, 5), 0);
        due("no such job", shop.ofJob(2, 9), NO_SUCH);
        due("a job below 0", shop.ofJob(-1, 0), NO_SUCH);
        due("what 6", shop.ofJob(0, 6), BAD_VALUE);
        due("what -1", shop.ofJob(0, -1), BAD_VALUE);
        for (int far : FAR_OFF) {
            due("ofJob(far, 0)", shop.ofJob(far, 0), NO_SUCH);
            due("ofJob(0, far)", shop.ofJob(0, far), BAD_VALUE);
        }
        BottleneckShop round = Shops.impossible();
        round.job(3, 1);
        due("not possible: the sum", round.ofJob(1, 3), 10);
        due("not possible: the end", round.ofJob(1, 4), NONE);
        due("not possible: the lateness", round.ofJob(1, 5), NONE);
        due("not possible: the end of an empty route", round.ofJob(2, 4), NONE);
        due("not possible: what 6", round.ofJob(1, 6), BAD_VALUE);
    }

    private static void count() {
        BottleneckShop shop = Shops.crossing();
        Shops.put(shop, "rd");
        due("counts", counts(shop), 2, 4, 20, 4, 3, 10, 10, 1, 2, 1);
        BottleneckShop late = Shops.of("r0d1,0*3;r0d3,0*3,1*3;r9d5");
        due("lateness", counts(late), 3, 3, 9, 3, 2, 12, 6, 1, 0, 1);
        BottleneckShop round = Shops.impossible();
        due("not possible", counts(round), 2, 4, 20, NONE, NONE, NONE, NONE, 0, 0, 2);
        due("what 10", shop.count(10), BAD_VALUE);
        due("what -1", round.count(-1), BAD_VALUE);
        for (int far : FAR_OFF) {
            due("count(far)", shop.count(far), BAD_VALUE);
        }
    }

    private static void bound() {
        BottleneckShop shop = Shops.of("r0d0,0*4,1*9;r2d0,0*3,1*1;r0d0,2*1,0*5");
        // Machine 0: job 0 to 4, then job 1 (tail 1) to 7, then job 2 to 12; job 0 gives 4 + 9.
        due("machine 0", shop.bound(0), 13);
        // Machine 1: heads 4 and 5.
        due("machine 1", shop.bound(1), 14);
        due("machine 2", shop.bound(2), 6);
        due("machine 3", shop.bound(3), 0);
        due("all", shop.bound(-1), 14);
        // Job 0 works from 0 to 2, is interrupted from 2 to 5 for the greater tail, and goes on to 13.
        due("an interruption", Shops.of("r0d0,0*10,1*1;r2d0,0*3,1*9").bound(0), 14);
        // The machine waits for the first head.
        due("a gap", Shops.of("r1d0,0*2;r9d0,0*2").bound(0), 11);
        due("without jobs", new BottleneckShop().bound(-1), 0);
        due("orders do not matter", Shops.impossible().bound(-1), 10);
        due("machine 4", shop.bound(4), BAD_VALUE);
        due("machine -2", shop.bound(-2), BAD_VALUE);
        for (int far : FAR_OFF) {
            due("bound(far)", shop.bound(far), BAD_VALUE);
        }
    }

    private static void forced() {
        BottleneckShop shop = Shops.crossing();
        due("a wide limit", shop.forced(500), 0);
        // Either order of a pair alone gives 20 or 10.
        due("20", shop.forced(20), 0);
        due("19", shop.forced(19), 2);
        due("10", shop.forced(10), 2);
        due("9", shop.forced(9), NONE);
        due("0", shop.forced(0), NONE);
        due("501", shop.forced(501), BAD_VALUE);
        due("-1", shop.forced(-1), BAD_VALUE);
        for (int far : FAR_OFF) {
            due("forced(far)", shop.forced(far), BAD_VALUE);
        }
        due("no operations", new BottleneckShop().forced(0), 0);
        due("the plan does not matter", Shops.impossible().forced(10), 2);
        due("both orders of a pair", Shops.of("r0d0,0*5;r0d0,0*5").forced(9), NONE);
        // Job 0 has to go first; then each of the other two may.
        BottleneckShop three = Shops.of("r0d0,0*2,1*9;r0d0,0*3;r0d0,0*4");
        due("two of three pairs", three.forced(12), 2);
        due("three jobs, wider", three.forced(14), 1);
    }

    private static void isForced() {
        BottleneckShop shop = Shops.crossing();
        due("0 ahead of 5", shop.isForced(10, 0, 5), 1);
        due("5 ahead of 0", shop.isForced(10, 5, 0), 0);
        due("4 ahead of 1", shop.isForced(19, 4, 1), 1);
        due("not forced", shop.isForced(20, 4, 1), 0);
        due("not kept", shop.isForced(9, 0, 5), NONE);
        due("no such one", shop.isForced(501, 2, 5), NO_SUCH);
        due("no such other", shop.isForced(-1, 0, 6), NO_SUCH);
        due("below 0", shop.isForced(10, -1, 0), NO_SUCH);
        due("the same", shop.isForced(10, 0, 0), BAD_VALUE);
        due("on other machines", shop.isForced(10, 0, 4), BAD_VALUE);
        due("501", shop.isForced(501, 0, 5), BAD_VALUE);
        due("-1", shop.isForced(-1, 0, 5), BAD_VALUE);
        due("bad values ahead of NONE", shop.isForced(0, 0, 1), BAD_VALUE);
        for (int far : FAR_OFF) {
            due("isForced(far, 0, 5)", shop.isForced(far, 0, 5), BAD_VALUE);
            due("isForced(10, far, 5)", shop.isForced(10, far, 5), NO_SUCH);
            due("isForced(10, 0, far)", shop.isForced(10, 0, far), NO_SUCH);
        }
        // Operation 0 is ahead of 4, and 4 is ahead of 8, by the limit; 0 ahead of 8 is forced, too.
        BottleneckShop three = Shops.of("r0d0,0*2,1*9;r0d0,0*3;r0d0,0*4");
        due("0 ahead of 4", three.isForced(12, 0, 4), 1);
        due("0 ahead of 8", three.isForced(12, 0, 8), 1);
        due("4 and 8", three.isForced(12, 4, 8), 0);
        due("8 and 4", three.isForced(12, 8, 4), 0);
    }

    private static void best() {
        BottleneckShop shop = Shops.impossible();
        due("the length", shop.best(-1, 0), 10);
        due("the length at no place", shop.best(-1, Integer.MIN_VALUE), 10);
        int[] found = {shop.best(0, 0), shop.best(0, 1), shop.best(1, 0), shop.best(1, 1)};
        due("the plan", found, 0, 1, 1, 0);
        due("behind the last place", shop.best(0, 2), NONE);
        due("a place below 0", shop.best(0, -1), NONE);
        due("a machine without jobs", shop.best(2, 0), NONE);
        due("machine 4", shop.best(4, 0), BAD_VALUE);
        due("machine -2", shop.best(-2, 0), BAD_VALUE);
        for (int far : FAR_OFF) {
            due("best(far, 0)", shop.best(far, 0), BAD_VALUE);
            due("best(0, far)", shop.best(0, far), NONE);
        }
        due("the plan stays as it is", orderOf(shop, 0), 1, 0);
        due("it is no change", shop.count(9), 2);
        due("nothing", new BottleneckShop().best(-1, 0), 0);
        // 2 has to be first and 1 last; 0 and 3 may stand either way.
        BottleneckShop four = Shops.of("r2d0,0*2,1*2;r6d0,0*2;r0d0,0*2,1*4;r2d0,0*2,2*2", "0:1032");
        int[] order = {four.best(0, 0), four.best(0, 1), four.best(0, 2), four.best(0, 3)};
        due("the first of the best orders", order, 2, 0, 3, 1);
        due("its length", four.best(-1, 0), 8);
        four.change(4, 3);
        due("another duration", four.best(-1, 0), 9);
    }

    private static void breakdown() {
        // Begins 0, 3, 7; ends 3, 7, 12.
        BottleneckShop row = Shops.of("r0d0,0*3;r0d0,0*4;r0d0,0*5");
        due("the second one is broken off", row.breakdown(0, 5, 10, -1), 19);
        due("in an instant", row.breakdown(0, 5, 5, -1), 14);
        due("just when the second one ends", row.breakdown(0, 7, 7, -1), 12);
        due("the last one waits", row.breakdown(0, 7, 20, -1), 25);
        due("another machine", row.breakdown(1, 5, 10, -1), 12);
        due("when all is done", row.breakdown(0, 12, 400, -1), 12);
        due("at the very beginning", row.breakdown(0, 0, 3, -1), 15);
        due("one after the other: the first one", row.breakdown(0, 5, 10, -1), 19);
        due("the same with another machine", row.breakdown(1, 5, 10, -1), 12);
        due("the same with the first machine again", row.breakdown(0, 5, 10, -1), 19);
        due("the same with another beginning", row.breakdown(0, 7, 10, -1), 15);
        due("the same with another end", row.breakdown(0, 7, 9, -1), 14);
        row.change(8, 6);
        due("the same with another duration", row.breakdown(0, 7, 9, -1), 15);
        row.undo();
        due("the same without that change", row.breakdown(0, 7, 9, -1), 14);
        // Begins 0 (job 0), 3 (job 2), 8 (job 1).
        BottleneckShop turned = Shops.of("r0d0,0*3;r0d0,0*4;r0d0,0*5", "0:021");
        due("one that just begins is free", repaired(turned, 1, 3, 3, 0), 0, 1, 2);
        due("one that has begun stays", repaired(turned, 1, 4, 4, 0), 0, 2, 1);
        due("one that is broken off is free", repaired(turned, 0, 4, 4, 0), 0, 1, 2);
        due("one that has ended stays", repaired(turned, 0, 8, 9, 0), 0, 2, 1);
        due("the plan is not changed", orderOf(turned, 0), 0, 2, 1);
        // Job 1 begins anew at 12 on machine 1, and is 22 at the end of machine 0; job 0 is 22 at the end behind it.
        BottleneckShop shop = Shops.crossing();
        shop.improve();
        due("both machines", shop.breakdown(1, 3, 12, -1), 22);
        due("the order on machine 1", repaired(shop, 1, 3, 12, 1), 1, 0);
        due("the order on machine 0", repaired(shop, 1, 3, 12, 0), 0, 1);
        due("NONE for a place that is not there", shop.breakdown(1, 3, 12, 2), NONE);
        due("NONE for a machine without jobs", shop.breakdown(1, 3, 12, 15), NONE);
        int[][] bad = {{-1, 0, 0, -1}, {4, 0, 0, -1}, {0, -1, 0, -1}, {0, 201, 300, -1}, {0, 5, 4, -1}, {0, 5, 401, -1},
            {0, 5, 5, -2}, {0, 5, 5, 16}};
        for (int[] each : bad) {
            due("out of range", shop.breakdown(each[0], each[1], each[2], each[3]), BAD_VALUE);
            due("out of range, not possible", Shops.impossible().breakdown(each[0], each[1], each[2], each[3]), BAD_VALUE);
        }
        for (int far : FAR_OFF) {
            due("breakdown(far, ..)", shop.breakdown(far, 0, 0, -1), BAD_VALUE);
            due("breakdown(0, far, ..)", shop.breakdown(0, far, far, -1), BAD_VALUE);
            due("breakdown(0, 0, far, -1)", shop.breakdown(0, 0, far, -1), BAD_VALUE);
            due("breakdown(0, 0, 0, far)", shop.breakdown(0, 0, 0, far), BAD_VALUE);
        }
        due("not possible", Shops.impossible().breakdown(0, 0, 0, -1), NOT_POSSIBLE);
        due("not possible, ahead of NONE", Shops.impossible().breakdown(0, 0, 0, 15), NOT_POSSIBLE);
        due("the edges", shop.breakdown(3, 200, 400, -1), 10);
        due("no operations", new BottleneckShop().breakdown(0, 0, 0, -1), 0);
    }

    private static void put() {
        BottleneckShop shop = new BottleneckShop();
        due("one character", shop.put('r'), 1);
        due("eight characters", shop.put(Shops.number("12345678")), 9);
        due("no character", shop.put(0), BAD_VALUE);
        due("code 32", shop.put(32), BAD_VALUE);
        due("code 33", shop.put(33), 10);
        due("code 126", shop.put(126), 11);
        due("code 127", shop.put(127), BAD_VALUE);
        due("code 255", shop.put(255), BAD_VALUE);
        due("a hole", shop.put('r' << 16 | 'd'), BAD_VALUE);
        due("a hole at the end", shop.put('r' << 8), BAD_VALUE);
        due("a bit far above", shop.put(1L << 63 | 'r'), BAD_VALUE);
        due("all bits", shop.put(-1), BAD_VALUE);
        due("the least number", shop.put(Long.MIN_VALUE), BAD_VALUE);
        due("a bad code in the middle", shop.put(Shops.number("ab\u0020cd")), BAD_VALUE);
        due("the length", shop.count(8), 11);
        for (int length = 19; length <= 75; length += 8) {
            due("on to " + length, shop.put(Shops.number("aaaaaaaa")), length);
        }
        due("one too many", shop.put(Shops.number("aaaaaa")), TOO_MANY);
        due("bad ahead of too many", shop.put(Shops.number("aaaaa\u0001")), BAD_VALUE);
        due("just 80", shop.put(Shops.number("aaaaa")), 80);
        due("81", shop.put('a'), TOO_MANY);
        due("it is no change", shop.count(9), 0);
        BottleneckShop order = new BottleneckShop();
        order.put(Shops.number("r1d2,0*"));
        order.put('3');
        due("the characters stand in their order", order.loadRoutes(), 1);
        due("and are what they were", order.about(0, 1), 3);
    }

    private static void wipe() {
        BottleneckShop shop = new BottleneckShop();
        due("an empty pad", shop.wipe(), 0);
        shop.put(Shops.number("abc"));
        due("three", shop.wipe(), 3);
        due("none then", shop.count(8), 0);
        due("it is no change", shop.count(9), 0);
        Shops.put(shop, "r1d2");
        due("what comes then stands alone", shop.loadRoutes(), 1);
    }

    private static int faultOf(String text, int kind) {
        BottleneckShop shop = new BottleneckShop();
        Shops.put(shop, text);
        int fault = shop.fault(kind);
        due("the pad stays: " + text, shop.count(8), text.length());
        return fault;
    }

    private static void fault() {
        due("kind 2", new BottleneckShop().fault(2), BAD_VALUE);
        due("kind -1", new BottleneckShop().fault(-1), BAD_VALUE);
        for (int far : FAR_OFF) {
            due("fault(far)", new BottleneckShop().fault(far), BAD_VALUE);
        }
        Object[][] routes = {
            {"", 0}, {"r", 1}, {"r0", 2}, {"r0d", 3}, {"r0d0", NONE}, {"x", 0}, {"d", 0}, {"rd", 1}, {"r0,", 2},
            {"r50d200", NONE}, {"r51d0", 2}, {"r60d0", 2}, {"r500", 3}, {"r00d0", 2}, {"r0d201", 5}, {"r0d200", NONE},
            {"r0d2000", 6}, {"r0d210", 5}, {"r0d00", 4}, {"r0d01", 4}, {"r0d0x", 4}, {"r0d0,", 5}, {"r0d0,0", 6},
            {"r0d0,0*", 7}, {"r0d0,0*1", NONE}, {"r0d0,0*0", 7}, {"r0d0,0*01", 7}, {"r0d0,0*20", NONE}, {"r0d0,0*21", 8},
            {"r0d0,0*30", 8}, {"r0d0,0*200", 9}, {"r0d0,4*1", 5}, {"r0d0,00*1", 6}, {"r0d0,0:1", 6}, {"r0d0,0*1,0*1", 9},
            {"r0d0,0*1,1*1,2*1,3*1", NONE}, {"r0d0,0*1,1*1,2*1,3*1,", 20}, {"r0d0,0*1,1*1,2*1,1*1", 17},
            {"r0d0;", 5}, {"r0d0;r0d0;r0d0;r0d0", NONE}, {"r0d0;r0d0;r0d0;r0d0;", 19}, {"r0d0;;", 5}, {"r0d0,;", 5},
            {"r0d0,0*1;r0d0,0*1", NONE}, {"r0d0,3*9,0*10;r5d7x", 18}, {"0:", 0}, {"r0d0,0*1!", 8}, {"r-1d0", 1},
        };
        for (Object[] each : routes) {
            due("fault as routes of " + each[0], faultOf((String) each[0], 0), (Integer) each[1]);
        }
        Object[][] plans = {
            {"", 0}, {"0", 1}, {"0:", NONE}, {"4:", 0}, {":", 0}, {"00", 1}, {"0;", 1}, {"0:0123", NONE}, {"0:4", 2},
            {"0:00", 3}, {"0:01230", 6}, {"0:3210;", 7}, {"0:;", 3}, {"0:;0", 3}, {"0:1;1:1;0:", 8}, {"0:0;1:0;2:0;3:0", NONE},
            {"3:;2:;1:;0:", NONE}, {"3:;2:;1:;0:;", 11}, {"0:,", 2}, {"0:1x", 3}, {"0::", 2}, {"r0d0", 0}, {"1:3;0:2;3:", NONE},
        };
        for (Object[] each : plans) {
            due("fault as a plan of " + each[0], faultOf((String) each[0], 1), (Integer) each[1]);
        }
        String full = "r50d200,0*20,1*20,2*20,3*20;r50d200,0*20,1*20,2*20,3*20;r50d200,0*20,1*20,2*20,3";
        due("a full pad", faultOf(full, 0), 80);
        due("a full pad without a fault", faultOf(full.substring(0, 78), 0), NONE);
    }

    private static void loadRoutes() {
        BottleneckShop shop = Shops.crossing();
        due("an empty pad", shop.loadRoutes(), BAD_TEXT);
        Shops.put(shop, "r1d2,3*");
        due("a text with a fault", shop.loadRoutes(), BAD_TEXT);
        due("the pad stays", shop.wipe(), 7);
        due("the jobs stay", shop.count(1), 4);
        due("no change", shop.count(9), 1);
        Shops.put(shop, "r1d2,3*4,0*5;r6d7;r8d9,0*10");
        due("three jobs", shop.loadRoutes(), 3);
        due("the pad is empty", shop.count(8), 0);
        due("a change", shop.count(9), 2);
        due("all orders", orders(shop), 0, 2, NONE, NONE, NONE, NONE, NONE, NONE, NONE, NONE, NONE, NONE, 0, NONE, NONE, NONE);
        due("a release", shop.ofJob(2, 0), 8);
        due("a due date", shop.ofJob(0, 1), 2);
        due("a duration", shop.about(1, 1), 5);
        due("a machine", shop.about(0, 0), 3);
        due("an operation there was before", shop.about(5, 0), NO_SUCH);
        due("undo", shop.undo(), 1);
        due("the jobs before", shop.count(1), 4);
        due("the pad does not come back", shop.count(8), 0);
    }

    private static void loadPlan() {
        BottleneckShop shop = Shops.crossing();
        due("an empty pad", shop.loadPlan(), BAD_TEXT);
        int[][] due = {{0, 1, 0, 1}};
        String[] wrongOnes = {"0:0", "0:", "0:012", "0:02", "0:10;2:0", "2:3", "1:01;0:1"};
        for (String text : wrongOnes) {
            Shops.put(shop, text);
            due("not just the jobs: " + text, shop.loadPlan(), NOT_POSSIBLE);
            due("the pad stays: " + text, shop.wipe(), text.length());
            due("the orders stay", new int[] {shop.order(0, 0), shop.order(0, 1), shop.order(1, 0), shop.order(1, 1)}, due[0]);
        }
        Shops.put(shop, "0:0;0");
        due("a fault ahead of that", shop.loadPlan(), BAD_TEXT);
        shop.wipe();
        due("no change", shop.count(9), 1);
        Shops.put(shop, "0:10");
        due("a way round", shop.loadPlan(), 0);
        due("the pad is empty", shop.count(8), 0);
        due("the other machine keeps its order", orderOf(shop, 1), 0, 1);
        Shops.put(shop, "2:;1:10;3:");
        due("possible", shop.loadPlan(), 1);
        due("machine 0 keeps its order", orderOf(shop, 0), 1, 0);
        due("machine 1", orderOf(shop, 1), 1, 0);
        due("changes", shop.count(9), 3);
        BottleneckShop none = new BottleneckShop();
        Shops.put(none, "0:;1:");
        due("without jobs", none.loadPlan(), 1);
        due("it is a change", none.count(9), 1);
    }

    private static void undo() {
        BottleneckShop shop = new BottleneckShop();
        due("nothing yet", shop.undo(), NOT_POSSIBLE);
        for (int i = 0; i < 4; i++) {
            shop.job(i, i);
        }
        due("three left", shop.undo(), 3);
        due("jobs then", shop.count(0), 3);
        shop.operation(0, 0, 5);
        shop.operation(1, 0, 6);
        shop.operation(2, 0, 7);
        due("at most six", shop.count(9), 6);
        shop.change(0, 9);
        shop.swap(0, 0);
        due("still six", shop.count(9), 6);
        due("the order before", orderOf(shop, 0), 1, 0, 2);
        due("without the swap", shop.undo(), 5);
        due("the order", orderOf(shop, 0), 0, 1, 2);
        due("without the change", shop.undo(), 4);
        due("the duration", shop.about(0, 1), 5);
        shop.undo();
        due("the order is shorter", orderOf(shop, 0), 0, 1);
        shop.undo();
        due("and shorter", orderOf(shop, 0), 0);
        shop.undo();
        due("no operation", shop.count(1), 0);
        due("the last state that was kept", shop.undo(), 0);
        due("jobs at last", shop.count(0), 2);
        due("no more", shop.undo(), NOT_POSSIBLE);
        due("a job anew", shop.job(7, 7), 2);
        due("its route is empty", shop.ofJob(2, 2), 0);
        BottleneckShop kinds = Shops.crossing();
        kinds.takeBest();
        kinds.save(1);
        kinds.restore(1);
        due("restore is a change", kinds.count(9), 3);
        kinds.best(-1, 0);
        kinds.breakdown(0, 1, 2, -1);
        kinds.put('a');
        kinds.wipe();
        due("others are none", kinds.count(9), 3);
        due("undo the restoring", kinds.undo(), 2);
        due("undo the best plan", kinds.undo(), 1);
        due("the length before", kinds.length(), 20);
        due("the best plan is found anew", kinds.best(-1, 0), 10);
    }

    private static void save() {
        BottleneckShop shop = Shops.crossing();
        due("slot -1", shop.save(-1), BAD_VALUE);
        due("slot 2", shop.save(2), BAD_VALUE);
        for (int far : FAR_OFF) {
            due("save(far)", shop.save(far), BAD_VALUE);
        }
        due("slot 0", shop.save(0), 2);
        due("it is no change", shop.count(9), 1);
        shop.job(0, 0);
        due("slot 1", shop.save(1), 3);
        due("back to two jobs", shop.restore(0), 2);
        due("back to three jobs", shop.restore(1), 3);
        due("slot 0 anew", shop.save(0), 3);
        due("what was saved last", shop.restore(0), 3);
        due("nothing is enough", new BottleneckShop().save(0), 0);
    }

    private static void restore() {
        BottleneckShop shop = Shops.crossing();
        due("slot -1", shop.restore(-1), BAD_VALUE);
        due("slot 2", shop.restore(2), BAD_VALUE);
        for (int far : FAR_OFF) {
            due("restore(far)", shop.restore(far), BAD_VALUE);
        }
        due("nothing saved", shop.restore(0), NOT_POSSIBLE);
        shop.save(0);
        due("the other slot", shop.restore(1), NOT_POSSIBLE);
        due("no change", shop.count(9), 1);
        shop.swap(0, 0);
        shop.change(0, 9);
        Shops.put(shop, "abc");
        due("two jobs", shop.restore(0), 2);
        due("the length", shop.length(), 20);
        due("the duration", shop.about(0, 1), 5);
        due("the pad is none of it", shop.count(8), 3);
        due("changes", shop.count(9), 4);
        shop.change(0, 1);
        due("the slot keeps it", shop.restore(0), 2);
        due("the duration again", shop.about(0, 1), 5);
        due("undo brings the other duration", shop.undo(), 5);
        due("which is", shop.about(0, 1), 1);
    }

    private static void constants() {
        int[] all = {BottleneckShop.NO_SUCH, BottleneckShop.BAD_VALUE, BottleneckShop.BAD_TEXT, BottleneckShop.TOO_MANY,
            BottleneckShop.NOT_POSSIBLE, BottleneckShop.NONE};
        due("the constants", all, -1, -2, -3, -4, -5, -6);
    }

    public static void main(String[] args) {
        constants();
        newObject();
        job();
        operation();
        change();
        swap();
        takeBest();
        improve();
        length();
        about();
        path();
        order();
        ofJob();
        count();
        bound();
        forced();
        isForced();
        best();
        breakdown();
        put();
        wipe();
        fault();
        loadRoutes();
        loadPlan();
        undo();
        save();
        restore();
        System.out.println(asked + " answers, " + wrong + " not as due");
        if (wrong != 0) {
            System.exit(1);
        }
    }
}
