/** Terms about bounds, forced orders, best plans and breakdowns, and the promises 14 to 18. */
final class SearchSentences extends Sentences {
    private SearchSentences() {
    }

    static void run() {
        boundTerms();
        forcedTerms();
        bestTerms();
        breakdownBegins();
        breakdownStays();
        breakdownOrders();
        bound();
        forced();
        isForced();
        best();
        breakdown();
    }

    private static void boundTerms() {
        terms("For the bound of a machine, orders do not matter: an operation on it has as its head the release of its job plus "
                + "the durations of all operations ahead of it on its route, and as its tail the durations of all operations "
                + "behind it on its route.");
        BottleneckShop four = Shops.of("r50d0,3*1,2*2,1*3,0*4");
        for (int machine = 0; machine < 4; machine++) {
            due("head, duration and tail on machine " + machine, four.bound(machine), 60);
        }
        BottleneckShop turned = Shops.crossing();
        for (int machine = 0; machine < 2; machine++) {
            for (int other = 0; other < 2; other++) {
                due("orders " + Shops.orders(turned), turned.bound(other), 10);
            }
            turned.swap(machine, 0);
        }
        due("a plan that is not possible", Shops.impossible().bound(0), 10);

        terms("The machine can interrupt operations: at each time, of those that are not finished and whose head is not greater "
                + "than the time, the one with the greatest tail is worked on (of several the lowest one).");
        // Job 0 works until 2, then job 1 until 5, then job 0 until 13: 5 + 9 and 13 + 1.
        due("a greater tail interrupts", Shops.of("r0d0,0*10,1*1;r2d0,0*3,1*9").bound(0), 14);
        // Job 0 works until 10, then job 1 until 13.
        due("a tail that is as great does not matter", Shops.of("r0d0,0*10,1*1;r2d0,0*3,1*1").bound(0), 14);
        due("a smaller tail waits", Shops.of("r0d0,0*10,1*9;r2d0,0*3,1*1").bound(0), 19);
        // Job 1 until 4, job 0 until 5, then job 2 (its head is just 5) until 7, then job 0: 7 + 9.
        due("a head that is just the time", Shops.of("r0d0,0*5;r0d0,0*4,1*1;r5d0,0*2,1*9").bound(0), 16);
        // The same, but job 0 works until 6 and is interrupted then.
        due("a head that is greater by 1", Shops.of("r0d0,0*5;r0d0,0*4,1*1;r6d0,0*2,1*9").bound(0), 17);
        due("nothing to work on for a time", Shops.of("r1d0,0*2;r9d0,0*2").bound(0), 11);
        due("nothing to work on between any two", Shops.of("r1d0,0*1;r5d0,0*1;r9d0,0*1;r13d0,0*1,1*1").bound(0), 15);
        due("nothing to work on at first", Shops.of("r50d0,0*2;r50d0,0*3").bound(0), 55);
        // Each job is interrupted by the next one: 3 finishes at 9, 2 at 13, 1 at 17, 0 at 21.
        due("three are interrupted", Shops.of("r1d0,0*5,1*1;r2d0,0*5,1*2;r3d0,0*5,1*3;r4d0,0*5,1*4").bound(0), 22);

        terms("The bound of the machine is the greatest (time when an operation is finished) + (its tail); 0 if there is no "
                + "operation on it.");
        due("the first one that is finished", Shops.of("r0d0,0*1,1*20;r0d0,0*5").bound(0), 21);
        due("the last one that is finished", Shops.of("r0d0,0*1,1*4;r0d0,0*5").bound(0), 6);
        due("both", Shops.of("r0d0,0*1,1*5;r0d0,0*5").bound(0), 6);
        for (int machine = -1; machine < 4; machine++) {
            due("no jobs " + machine, new BottleneckShop().bound(machine), 0);
            due("no operations " + machine, Shops.of("r50d0;r50d0;r50d0;r50d0").bound(machine), 0);
            due("one operation on machine 2, " + machine, Shops.of("r50d0;r50d0,2*1").bound(machine),
                    machine == -1 || machine == 2 ? 51 : 0);
        }

        terms("The bound is the greatest one of all machines.");
        for (int machine = 0; machine < 4; machine++) {
            BottleneckShop shop = Shops.full(5);
            for (int job = 0; job < 4; job++) {
                shop.change(4 * job + (machine - job + 4) % 4, 9);
            }
            due("machine " + machine, shop.bound(machine), 36);
            due("the greatest one", shop.bound(-1), 36);
            due("another one", shop.bound((machine + 1) % 4), 24);
        }
    }

    /** Two jobs on one machine: either order makes a way through both, of 12 or of 11. */
    private static BottleneckShop pair() {
        return Shops.of("r0d0,0*5,1*2;r0d0,0*4,2*3");
    }

    private static void forcedTerms() {
        terms("For a limit u, orders of pairs of operations on the same machine can be forced.");
        due("two pairs", Shops.crossing().forced(10), 2);
        due("no two on the same machine", Shops.of("r0d0,0*5,1*5;r0d0,2*5").forced(10), 0);

        terms("Heads and tails are found as in a plan, but with forced pairs in place of the orders on machines: the two before "
                + "(and behind) an operation are the one on its route, and all those of its machine that are forced ahead of it "
                + "(behind it).");
        // With 7, 0 is forced ahead of the others; then they begin at 2, and 4 and 8 make 9 in either order.
        BottleneckShop heads = Shops.of("r0d0,0*2,1*3;r0d0,0*3;r0d0,0*4");
        due("heads behind one that is forced", heads.forced(7), NONE);
        // With 8, 0 ahead of 8 forces 4 ahead of 8, this 0 ahead of 4, and the last one ends at 9 then.
        due("tails ahead of one that is forced", heads.forced(8), NONE);
        due("the same, kept", heads.forced(9), 0);
        due("the orders of the plan do not matter", Shops.impossible().forced(19), 2);
        due("the plan has another order", Shops.of("r0d0,0*5,1*5;r0d0,1*5,0*5", "0:10;1:10").isForced(10, 0, 5), 1);
        due("all pairs of a full workshop", Shops.full(20).forced(80), 24);
        due("the neighbours are free", Shops.full(20).forced(120), 12);
        due("only the first ones and the last ones", Shops.full(20).forced(159), 4);

        terms("As long as there is a pair of operations x and y on the same machine with head(x) + duration(x) + duration(y) + "
                + "tail(y) greater than u, y is forced ahead of x.");
        due("not greater", pair().forced(12), 0);
        due("greater by 1", pair().forced(11), 1);
        due("which one", pair().isForced(11, 4, 0), 1);
        due("not the other way", pair().isForced(11, 0, 4), 0);
        due("a full workshop, not greater", Shops.full(20).forced(160), 0);
        // By 4 ahead of 0 operation 1 begins at 9: 9 + 1 + 3 is too much, so 8 is forced ahead of 1.
        BottleneckShop chain = Shops.of("r0d0,0*5,1*1;r0d0,0*4,2*2;r4d0,1*3");
        due("a pair that is forced by another one", chain.forced(10), 2);
        due("it is this pair", chain.isForced(10, 8, 1), 1);
        due("neither by a limit greater by 1", chain.forced(11), 0);

        terms("(It does not matter which pair is taken first. Only pairs that are forced in this way count, not those whose order "
                + "follows from others.)");
        BottleneckShop three = Shops.of("r0d0,0*2,1*9;r0d0,0*3;r0d0,0*4");
        due("0 ahead of the other two", three.forced(12), 2);
        due("4 and 8 stay free", three.isForced(12, 4, 8) + three.isForced(12, 8, 4), 0);
        due("0 ahead of 4", three.isForced(12, 0, 4), 1);
        due("0 ahead of 8", three.isForced(12, 0, 8), 1);

        // A way round never comes alone: the operation behind it is too late by then.
        terms("If both orders of a pair are forced, or there is a way round, or head + duration + tail of any operation is greater "
                + "than u, the limit cannot be kept.");
        due("both orders, and each operation alone would fit", pair().forced(10), NONE);
        due("both orders on the last machine", Shops.of("r0d0;r0d0;r0d0,3*5;r0d0,3*5").forced(9), NONE);
        due("both orders, kept", Shops.of("r0d0;r0d0;r0d0,3*5;r0d0,3*5").forced(10), 0);
        due("one operation, as long as the limit", Shops.of("r5d0,0*3").forced(8), 0);
        due("one operation, longer by 1", Shops.of("r5d0,0*3").forced(7), NONE);
        due("a route, as long as the limit", Shops.of("r5d0,0*3,1*4").forced(12), 0);
        due("a route, longer by 1", Shops.of("r5d0,0*3,1*4").forced(11), NONE);
        due("the last job is longer by 1", Shops.of("r0d0,0*1;r0d0,1*1;r0d0,2*1;r5d0,3*3").forced(7), NONE);
        due("each route is longer by 1", Shops.crossing().forced(9), NONE);
        due("a full workshop, shorter by 1", Shops.full(20).forced(79), NONE);
    }

    private static void bestTerms() {
        terms("The best plan is a possible one with the least length; of several, the one whose order of machine 0 is the first by "
                + "the numbers of the jobs (compared place by place), then that of machine 1, and so on.");
        due("the least length", Shops.of("r0d0,0*1;r0d0,0*1,1*9").best(-1, 0), 10);
        due("ahead of the first order", Shops.bestOrders(Shops.of("r0d0,0*1;r0d0,0*1,1*9")), "0:10;1:1;2:;3:");
        due("all orders are as long", Shops.bestOrders(Shops.of("r0d0,3*1;r0d0,3*1;r0d0,3*1;r0d0,3*1", "3:3210")),
                "0:;1:;2:;3:0123");
        // The last place would make job 2 too late.
        due("place by place", Shops.bestOrders(Shops.of("r0d0,0*1;r0d0,0*1;r0d0,0*1,1*1", "0:210")), "0:021;1:2;2:;3:");
        // Whoever is first on one of the machines has to be first on the other one.
        due("machine 0 decides", Shops.bestOrders(Shops.of("r0d0,0*1,1*1;r0d0,0*1,1*1", "0:10;1:10")), "0:01;1:01;2:;3:");
        due("machine 0 decides, though it is last on the routes",
                Shops.bestOrders(Shops.of("r0d0,1*1,0*1;r0d0,1*1,0*1", "0:10;1:10")), "0:01;1:01;2:;3:");
        // For a length of 2 machine 3 has to take job 1 first.
        due("a later machine pays for it", Shops.bestOrders(Shops.of("r0d0,0*1,3*1;r0d0,3*1,0*1")), "0:01;1:;2:;3:10");
        due("a way round is no plan", Shops.bestOrders(Shops.impossible()), "0:01;1:10;2:;3:");
        due("a full workshop", Shops.bestOrders(Shops.full(1)), "0:0321;1:1032;2:2103;3:3210");
        due("nothing", new BottleneckShop().best(-1, 0), 0);
    }

    /** Three jobs on machine 0: they begin at 0, 3 and 7, and end at 3, 7 and 12. */
    private static BottleneckShop row() {
        return Shops.of("r0d0,0*3;r0d0,0*4;r0d0,0*5");
    }

    /** The same, but job 2 is the second one: job 0 begins at 0, job 2 at 3, job 1 at 8. */
    private static BottleneckShop turned() {
        return Shops.of("r0d0,0*3;r0d0,0*4;r0d0,0*5", "0:021");
    }

    private static void breakdownBegins() {
        terms("While the plan is carried out, at the time t (0 to 200) a machine breaks down until the time v (t to 400).");
        due("from 0 until 0", row().breakdown(0, 0, 0, -1), 12);
        due("from 0 until 1", row().breakdown(0, 0, 1, -1), 13);
        due("from 0 until 400", row().breakdown(0, 0, 400, -1), 412);
        due("from 200 until 200, behind the end", row().breakdown(0, 200, 200, -1), 12);
        due("from 200 until 400, behind the end", row().breakdown(0, 200, 400, -1), 12);
        BottleneckShop longest = Shops.longest();
        // Job 1 works on machine 0 until 210; then job 2 goes on to 290, and job 3 the other way round.
        due("from 200 until 200", longest.breakdown(3, 200, 200, -1), 290);
        due("from 200 until 400: job 3 begins then", longest.breakdown(3, 200, 400, -1), 480);
        BottleneckShop late = Shops.of("r50d0,0*20;r50d0,0*20;r50d0,0*20;r50d0,0*20");
        due("from 109 until 400: the third one is broken off", late.breakdown(0, 109, 400, -1), 440);
        due("from 110 until 400: it has ended", late.breakdown(0, 110, 400, -1), 420);

        terms("Operations that have ended by t stay as they were;");
        due("a time ahead of its end", row().breakdown(0, 6, 6, -1), 15);
        due("just at its end", row().breakdown(0, 7, 7, -1), 12);
        due("a time behind its end, the next one is broken off", row().breakdown(0, 8, 8, -1), 13);
        due("just at the end of the first one", row().breakdown(0, 3, 4, -1), 13);
        due("just at the end of the last one", row().breakdown(0, 12, 400, -1), 12);
        due("a time ahead of the end of the last one", row().breakdown(0, 11, 400, -1), 405);
    }

    private static void breakdownStays() {
        terms("so do those on other machines that have begun before t.");
        due("it begins a time behind t", Shops.ordersAfter(turned(), 1, 2, 2), "0:012;1:;2:;3:");
        due("it just begins", Shops.ordersAfter(turned(), 1, 3, 3), "0:012;1:;2:;3:");
        due("it began a time ahead of t", Shops.ordersAfter(turned(), 1, 4, 4), "0:021;1:;2:;3:");
        due("it ends just then", Shops.ordersAfter(turned(), 1, 8, 8), "0:021;1:;2:;3:");
        due("it is not done anew", turned().breakdown(1, 4, 400, -1), 12);

        terms("An operation on this machine that has begun before t and has not ended by t is broken off, and has to be done anew "
                + "as a whole.");
        due("it just begins: not broken off", row().breakdown(0, 3, 3, -1), 12);
        due("it began a time ahead of t", row().breakdown(0, 4, 4, -1), 13);
        due("it would end a time behind t", row().breakdown(0, 6, 6, -1), 15);
        due("anew behind the breakdown", row().breakdown(0, 5, 10, -1), 19);
        due("others may come ahead of it", Shops.ordersAfter(turned(), 0, 4, 4), "0:012;1:;2:;3:");
        due("the first one", row().breakdown(0, 1, 1, -1), 13);

        terms("All operations that do not stay as they were (also those that would just begin at t) begin at t or later, those on "
                + "this machine at v or later.");
        BottleneckShop best = Shops.of("r0d0,0*5,1*5;r0d0,1*5,0*5", "1:10");
        due("both would just begin: one at t, one at v", best.breakdown(0, 5, 9, -1), 14);
        due("both at t", best.breakdown(0, 5, 5, -1), 10);
        due("one that would begin later than v", Shops.of("r50d0,0*1").breakdown(0, 3, 9, -1), 51);
        due("one that would begin just at v", Shops.of("r50d0,0*1").breakdown(0, 3, 50, -1), 51);
        due("one that has to wait for v", Shops.of("r50d0,0*1").breakdown(0, 3, 51, -1), 52);
        for (int machine = 0; machine < 4; machine++) {
            BottleneckShop full = Shops.full(1);
            full.takeBest();
            due("the last one on machine " + machine, full.breakdown(machine, 3, 9, -1), 10);
        }
        // Job 0 begins at 5; job 1 waits for it, but could go ahead of it.
        BottleneckShop wait = Shops.of("r5d0,1*6;r0d0,1*4", "1:01");
        due("on another machine at 1", wait.breakdown(0, 1, 100, -1), 11);
        due("on another machine at 2", wait.breakdown(0, 2, 100, -1), 12);
        due("on another machine, where one just begins", wait.breakdown(0, 5, 100, -1), 15);
        due("on another machine, where one has begun", Shops.ordersAfter(wait, 0, 6, 100), "0:;1:01;2:;3:");
        due("behind one that is broken off", Shops.of("r0d0,0*5,1*2").breakdown(0, 4, 6, -1), 13);
        due("its release still holds", Shops.of("r0d0,0*3;r50d0,0*2").breakdown(0, 0, 10, -1), 52);
    }

    private static void breakdownOrders() {
        terms("The order of the machines is found anew: those that stay as they were come first, in their order; all orders of the "
                + "others are let that make a possible plan.");
        BottleneckShop down = Shops.of("r0d0,0*3;r0d0,0*3;r0d0,0*3;r0d0,0*3", "0:3210");
        due("none stays", Shops.ordersAfter(down, 0, 0, 0), "0:0123;1:;2:;3:");
        due("one stays", Shops.ordersAfter(down, 0, 3, 3), "0:3012;1:;2:;3:");
        due("two stay", Shops.ordersAfter(down, 0, 6, 6), "0:3201;1:;2:;3:");
        due("three stay", Shops.ordersAfter(down, 0, 9, 9), "0:3210;1:;2:;3:");
        due("all stay", Shops.ordersAfter(down, 0, 12, 12), "0:3210;1:;2:;3:");
        due("the plan stays as it is", Shops.order(down, 0), "3210");
        due("the machines of a breakdown and the other ones",
                Shops.ordersAfter(Shops.of("r0d0,0*5,1*5;r0d0,1*5,0*5", "1:10"), 1, 3, 12), "0:01;1:10;2:;3:");
        due("a shorter order is found", Shops.crossing().breakdown(2, 0, 0, -1), 10);
        due("one has begun, the others are free", Shops.crossing().breakdown(2, 1, 1, -1), 11);

        terms("The answer is the least length (the greatest end of an operation), and the first such plan, as for the best plan.");
        BottleneckShop stays = Shops.of("r0d0,1*20;r0d0,0*3");
        due("one that stays ends last", stays.breakdown(0, 1, 16, -1), 20);
        due("both end last", stays.breakdown(0, 1, 17, -1), 20);
        due("one that is done anew ends last", stays.breakdown(0, 1, 18, -1), 21);
        due("all have ended", stays.breakdown(1, 20, 400, -1), 20);
        due("no operations", new BottleneckShop().breakdown(0, 0, 0, -1), 0);
        due("no operations, the edges", new BottleneckShop().breakdown(3, 200, 400, -1), 0);
        due("jobs without operations", Shops.of("r50d0").breakdown(0, 0, 60, -1), 0);
        due("the first one of all orders", Shops.ordersAfter(turned(), 0, 0, 9), "0:012;1:;2:;3:");
        // Job 1 has to go first, or its 9 would come too late.
        due("the least length first", Shops.ordersAfter(Shops.of("r0d0,0*1;r0d0,0*1,1*9"), 0, 0, 5), "0:10;1:1;2:;3:");
    }

    private static void bound() {
        of(14, "Returns a bound.");
        BottleneckShop shop = Shops.of("r0d0,0*4,1*9;r2d0,0*3,1*1;r0d0,2*1,0*5");
        due("of machine 0", shop.bound(0), 13);
        int[] bounds = {14, 13, 14, 6, 0};

        of(14, "`machine`: 0 to 3, or -1 for the greatest one of all machines");
        range("machine", -1, 3, BAD_VALUE, shop::bound, machine -> bounds[machine + 1]);

        of(14, "Returns the bound; BAD_VALUE if machine is out of range.");
        due("-2", new BottleneckShop().bound(-2), BAD_VALUE);
        due("4", new BottleneckShop().bound(4), BAD_VALUE);
    }

    private static void forced() {
        of(15, "Tells what a limit forces.");
        due("nothing", Shops.crossing().forced(20), 0);
        due("two pairs", Shops.crossing().forced(19), 2);

        of(15, "`limit`: 0 to 500");
        range("limit of two jobs", 0, 500, BAD_VALUE, limit -> pair().forced(limit),
                limit -> limit > 11 ? 0 : limit == 11 ? 1 : NONE);
        range("limit of none", 0, 500, BAD_VALUE, limit -> new BottleneckShop().forced(limit), limit -> 0);

        of(15, "Returns the number of pairs of operations whose order is forced;");
        due("none", Shops.longest().forced(500), 0);
        due("one", pair().forced(11), 1);
        due("all of a full workshop", Shops.full(20).forced(80), 24);
        due("without operations", new BottleneckShop().forced(0), 0);
        for (int machine = 0; machine < 4; machine++) {
            String work = ",M*10".replace('M', (char) ('0' + machine));
            due("all pairs of machine " + machine,
                    Shops.of("r0d0" + work + ";r10d0" + work + ";r20d0" + work + ";r30d0" + work).forced(40), 6);
            due("all pairs of machine " + machine + ", the other way",
                    Shops.of("r30d0" + work + ";r20d0" + work + ";r10d0" + work + ";r0d0" + work).forced(40), 6);
        }

        of(15, "BAD_VALUE if limit is out of range;");
        due("-1", Shops.crossing().forced(-1), BAD_VALUE);
        due("501", Shops.crossing().forced(501), BAD_VALUE);

        of(15, "NONE if the limit cannot be kept.");
        due("0, with an operation", Shops.of("r0d0,0*1").forced(0), NONE);
        due("1", Shops.of("r0d0,0*1").forced(1), 0);
        due("just the best length", Shops.crossing().forced(10), 2);
        due("shorter by 1", Shops.crossing().forced(9), NONE);
    }

    private static void isForced() {
        of(16, "Tells whether a limit forces an operation ahead of another one.");
        due("it does", Shops.crossing().isForced(19, 4, 1), 1);

        of(16, "`limit`: 0 to 500");
        range("limit", 0, 500, BAD_VALUE, limit -> pair().isForced(limit, 4, 0),
                limit -> limit > 11 ? 0 : limit == 11 ? 1 : NONE);

        of(16, "Returns 1 if the one is forced ahead of the other one, 0 if not;");
        due("ahead", pair().isForced(11, 4, 0), 1);
        due("behind", pair().isForced(11, 0, 4), 0);
        due("neither", pair().isForced(12, 4, 0), 0);
        due("neither", pair().isForced(12, 0, 4), 0);
        due("the last operation of a full workshop", Shops.full(20).isForced(80, 8, 15), 1);
        due("behind the last one", Shops.full(20).isForced(80, 15, 8), 0);

        of(16, "NO_SUCH if there is no such operation;");
        range("one", 0, 15, NO_SUCH, one -> Shops.full(20).isForced(80, one, one), one -> BAD_VALUE);
        range("other", 0, 15, NO_SUCH, other -> Shops.full(20).isForced(80, 15, other) == NO_SUCH ? NO_SUCH : 0,
                other -> 0);
        for (int operation = 0; operation < 16; operation++) {
            boolean there = operation < 8 && operation % 4 < 2;
            due("one of two with two " + operation, Shops.crossing().isForced(10, operation, 0) == NO_SUCH ? 0 : 1, there ? 1 : 0);
            due("other of two with two " + operation, Shops.crossing().isForced(10, 0, operation) == NO_SUCH ? 0 : 1, there ? 1 : 0);
        }
        due("there are none", new BottleneckShop().isForced(0, 0, 4), NO_SUCH);
        due("and a bad limit", Shops.crossing().isForced(501, 2, 5), NO_SUCH);
        due("and a bad limit", Shops.crossing().isForced(-1, 0, 6), NO_SUCH);
        due("the same, that is not there", Shops.crossing().isForced(10, 2, 2), NO_SUCH);

        of(16, "BAD_VALUE if limit is out of range, or both are not on the same machine (or are the same);");
        due("501", Shops.crossing().isForced(501, 0, 5), BAD_VALUE);
        due("-1", Shops.crossing().isForced(-1, 0, 5), BAD_VALUE);
        due("other machines", Shops.crossing().isForced(10, 0, 4), BAD_VALUE);
        due("other machines of one job", Shops.crossing().isForced(10, 0, 1), BAD_VALUE);
        due("the same", Shops.crossing().isForced(10, 5, 5), BAD_VALUE);
        due("the same, and a limit that is not kept", Shops.crossing().isForced(9, 5, 5), BAD_VALUE);
        due("other machines, and a limit that is not kept", Shops.crossing().isForced(0, 0, 4), BAD_VALUE);

        of(16, "NONE if the limit cannot be kept.");
        due("9", Shops.crossing().isForced(9, 0, 5), NONE);
        due("0", Shops.crossing().isForced(0, 5, 0), NONE);
    }

    private static void best() {
        of(17, "Returns the best plan.");
        due("all of it", Shops.bestOrders(Shops.impossible()), "0:01;1:10;2:;3:");
        BottleneckShop shop = Shops.crossing();
        due("it is found", shop.best(1, 0), 1);
        due("the plan stays", Shops.orders(shop), "0:01;1:01;2:;3:");
        due("it is no change", shop.count(9), 1);
        shop.change(1, 1);
        due("after a change", shop.best(-1, 0), 10);
        shop.change(0, 20);
        due("after another change", shop.best(-1, 0), 25);

        of(17, "`machine`: 0 to 3, or -1 for the length");
        range("machine", -1, 3, BAD_VALUE, machine -> Shops.full(20).best(machine, 0), machine -> machine < 0 ? 80 : machine);

        of(17, "`place`: a place in the order of the machine (does not matter for the length)");
        for (int place : new int[] {-1, 0, 3, 4, Integer.MIN_VALUE, Integer.MAX_VALUE}) {
            due("the length at the place " + place, Shops.crossing().best(-1, place), 10);
        }
        range("place of 2", 0, 1, NONE, place -> Shops.crossing().best(0, place), place -> place);
        range("place of 4", 0, 3, NONE, place -> Shops.full(1).best(3, place), place -> 3 - place);

        of(17, "Returns the length, or the job at this place; BAD_VALUE if machine is out of range;");
        due("and no such place", Shops.crossing().best(4, 9), BAD_VALUE);
        due("and no such place", Shops.crossing().best(-2, -1), BAD_VALUE);

        of(17, "NONE if there is no such place.");
        due("no jobs", new BottleneckShop().best(0, 0), NONE);
        due("a machine without jobs", Shops.crossing().best(2, 0), NONE);
        due("behind the last one", Shops.crossing().best(1, 2), NONE);
        due("ahead of the first one", Shops.crossing().best(1, -1), NONE);
    }

    private static void breakdown() {
        of(18, "Returns what a breakdown makes of the plan.");
        due("the least length", row().breakdown(0, 5, 10, -1), 19);
        BottleneckShop shop = row();
        shop.breakdown(0, 5, 10, -1);
        due("it is no change", shop.count(9), 1);
        due("the plan stays", shop.length(), 12);
        int[][] asked = {{0, 5, 10, 19}, {1, 5, 10, 12}, {0, 5, 10, 19}, {0, 0, 10, 22}, {0, 5, 10, 19}, {0, 5, 5, 14},
            {0, 0, 5, 17}, {0, 0, 0, 12}, {0, 0, 5, 17}, {3, 0, 5, 12}, {3, 0, 0, 12}, {0, 0, 0, 12}, {0, 0, 9, 21}};
        for (int[] each : asked) {
            due("behind another one", shop.breakdown(each[0], each[1], each[2], -1), each[3]);
        }
        shop.change(8, 6);
        due("after a change", shop.breakdown(0, 0, 9, -1), 22);
        shop.swap(0, 0);
        due("after another change", shop.breakdown(0, 4, 9, -1), 18);
        shop.undo();
        due("after undo", shop.breakdown(0, 4, 9, -1), 19);

        of(18, "`machine`: 0 to 3: the one that breaks down");
        range("machine", 0, 3, BAD_VALUE, machine -> row().breakdown(machine, 5, 10, -1), machine -> machine == 0 ? 19 : 12);

        of(18, "`from`: the time t, 0 to 200");
        range("from", 0, 200, BAD_VALUE, from -> row().breakdown(0, from, 300, -1),
                from -> from < 3 ? 312 : from < 7 ? 309 : from < 12 ? 305 : 12);
        range("from and until", 0, 200, BAD_VALUE, from -> row().breakdown(1, from, from, -1), from -> 12);

        of(18, "`until`: the time v, from to 400");
        for (int from : new int[] {0, 3, 199, 200}) {
            range("until, from " + from, from, 400, BAD_VALUE, until -> row().breakdown(0, from, until, -1),
                    until -> from > 3 ? 12 : from == 3 ? Math.max(3, until) + 9 : until + 12);
        }

        of(18, "`what`: -1 for the least length; otherwise 4 * m + p for the job at the place p of the order of machine m, "
                + "0 to 15");
        String full = "0321103221033210";
        range("what, of a full workshop", -1, 15, BAD_VALUE, what -> Shops.full(20).breakdown(0, 0, 0, what),
                what -> what < 0 ? 80 : full.charAt(what) - '0');

        of(18, "Returns the number; BAD_VALUE if an argument is out of range;");
        int[][] bad = {{-1, 0, 0, -1}, {4, 0, 0, -1}, {0, -1, 0, -1}, {0, 201, 201, -1}, {0, 5, 4, -1}, {0, 200, 401, -1},
            {0, 5, 5, -2}, {0, 5, 5, 16}};
        for (int[] each : bad) {
            due("possible", row().breakdown(each[0], each[1], each[2], each[3]), BAD_VALUE);
            due("not possible", Shops.impossible().breakdown(each[0], each[1], each[2], each[3]), BAD_VALUE);
            due("no jobs", new BottleneckShop().breakdown(each[0], each[1], each[2], each[3]), BAD_VALUE);
        }

        of(18, "NOT_POSSIBLE if the plan is not possible;");
        due("the length", Shops.impossible().breakdown(0, 0, 0, -1), NOT_POSSIBLE);
        due("a place", Shops.impossible().breakdown(3, 200, 400, 0), NOT_POSSIBLE);
        due("a place that is not there", Shops.impossible().breakdown(0, 0, 0, 15), NOT_POSSIBLE);
        BottleneckShop again = Shops.impossible();
        again.undo();
        due("possible again", again.breakdown(0, 0, 0, -1), 10);

        of(18, "NONE if there is no such place.");
        due("behind the last one", row().breakdown(0, 5, 10, 3), NONE);
        due("the last one", row().breakdown(0, 5, 10, 2), 2);
        due("a machine without jobs", row().breakdown(0, 5, 10, 4), NONE);
        due("the last place of all", row().breakdown(0, 5, 10, 15), NONE);
        due("no jobs", new BottleneckShop().breakdown(0, 0, 0, 0), NONE);
    }
}
