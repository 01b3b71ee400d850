import java.util.ArrayList;
import java.util.List;
import java.util.function.ToIntFunction;

/** The promises 24 to 26: undo, save and restore. */
final class HistorySentences extends Sentences {
    private static final int MOST = 6;

    /** A call by its name. */
    static final class Call {
        final String name;
        final ToIntFunction<BottleneckShop> ask;

        Call(String name, ToIntFunction<BottleneckShop> ask) {
            this.name = name;
            this.ask = ask;
        }
    }

    private HistorySentences() {
    }

    static void run() {
        undoBringsBack();
        atMostSix();
        eachChange();
        othersAreNone();
        undoAnswers();
        save();
        restore();
    }

    /** Two jobs that cross, saved in slot 0, with a routes' text or a plan's text on the pad. */
    private static BottleneckShop start(String pad) {
        BottleneckShop shop = Shops.crossing();
        shop.save(0);
        Shops.put(shop, pad);
        return shop;
    }

    /** All that are changes; each one is possible at the start. */
    private static List<Call> changes() {
        List<Call> all = new ArrayList<>();
        all.add(new Call("job", shop -> shop.job(50, 200)));
        all.add(new Call("operation", shop -> shop.operation(1, 3, 20)));
        all.add(new Call("change", shop -> shop.change(5, 20)));
        all.add(new Call("change to what it is", shop -> shop.change(5, 5)));
        all.add(new Call("swap", shop -> shop.swap(1, 0)));
        all.add(new Call("swap that makes a way round", shop -> shop.swap(0, 0)));
        all.add(new Call("takeBest", BottleneckShop::takeBest));
        all.add(new Call("improve", BottleneckShop::improve));
        all.add(new Call("restore", shop -> shop.restore(0)));
        return all;
    }

    private static List<Call> changesByText() {
        List<Call> all = new ArrayList<>();
        all.add(new Call("loadRoutes", shop -> loadRoutes(shop, "r1d2,3*4")));
        all.add(new Call("loadRoutes of what is there", shop -> loadRoutes(shop, "r0d10,0*5,1*5;r0d10,1*5,0*5")));
        all.add(new Call("loadPlan", shop -> loadPlan(shop, "1:10")));
        all.add(new Call("loadPlan of what is there", shop -> loadPlan(shop, "0:01;1:01")));
        return all;
    }

    private static int loadRoutes(BottleneckShop shop, String text) {
        shop.wipe();
        Shops.put(shop, text);
        return shop.loadRoutes();
    }

    private static int loadPlan(BottleneckShop shop, String text) {
        shop.wipe();
        Shops.put(shop, text);
        return shop.loadPlan();
    }

    private static List<Call> allChanges() {
        List<Call> all = changes();
        all.addAll(changesByText());
        return all;
    }

    private static void undoBringsBack() {
        of(24, "Undoes the latest change: jobs, routes and the plan are as they were before it.");
        String before = Shops.state(start(""));
        for (Call each : allChanges()) {
            BottleneckShop shop = start("");
            due(each.name + " is no error", each.ask.applyAsInt(shop) >= 0 ? 1 : 0, 1);
            due("undo of " + each.name, shop.undo(), 1);
            due("the state after undo of " + each.name, Shops.state(shop), before);
            due("the length after undo of " + each.name, shop.length(), 20);
            due("the best length after undo of " + each.name, shop.best(-1, 0), 10);
        }
        BottleneckShop pad = start("abc");
        pad.change(0, 1);
        pad.put('d');
        pad.undo();
        due("the pad is no part of it", pad.count(8), 4);
        BottleneckShop loaded = start("");
        loadRoutes(loaded, "r0d0");
        loaded.undo();
        due("the pad does not come back", loaded.count(8), 0);
        BottleneckShop slot = start("");
        slot.change(0, 9);
        slot.save(1);
        slot.undo();
        slot.restore(1);
        due("the slots are no part of it", slot.about(0, 1), 9);
        BottleneckShop full = Shops.full(20);
        String whole = Shops.state(full);
        full.takeBest();
        full.undo();
        due("a full workshop", Shops.state(full), whole);
    }

    private static void atMostSix() {
        of(24, "A history of at most 6 states is kept:");
        for (int changes = 0; changes <= 14; changes++) {
            BottleneckShop shop = Shops.of("r0d0,0*20");
            shop.undo();
            for (int release = 0; release < changes; release++) {
                loadRoutes(shop, "r" + release + "d0");
            }
            int kept = Math.min(MOST, changes);
            due("after " + changes + " changes", shop.count(9), kept);
            for (int left = kept - 1; left >= 0; left--) {
                due("undo, after " + changes + " changes", shop.undo(), left);
                int release = changes - kept + left - 1;
                due("the job then", shop.count(0) == 0 ? -1 : shop.ofJob(0, 0), release);
            }
            due("none is left after " + changes, shop.undo(), NOT_POSSIBLE);
            due("the state stays", shop.count(0) == 0 ? -1 : shop.ofJob(0, 0), changes - kept - 1);
        }

        of(24, "when one more is recorded, the oldest one is dropped.");
        for (Call each : allChanges()) {
            BottleneckShop shop = start("");
            for (int duration = 1; duration <= MOST - 1; duration++) {
                shop.change(0, duration);
            }
            due("a full history", shop.count(9), MOST);
            due(each.name + " is no error", each.ask.applyAsInt(shop) >= 0 ? 1 : 0, 1);
            due("a full history and " + each.name, shop.count(9), MOST);
            for (int left = MOST - 1; left >= 0; left--) {
                due("undo behind " + each.name, shop.undo(), left);
                due("the duration behind " + each.name, shop.about(0, 1), left == 0 ? 5 : left);
            }
            due("the empty workshop has been dropped", shop.undo(), NOT_POSSIBLE);
            due("two jobs are left", shop.count(0), 2);
        }
        BottleneckShop some = Shops.crossing();
        for (int round = 0; round < 20; round++) {
            some.change(0, 1 + round % 20);
            some.change(0, 20 - round % 20);
            due("undo between changes", some.undo(), Math.min(MOST - 1, round + 2));
            due("the duration between changes", some.about(0, 1), 1 + round % 20);
        }
    }

    private static void eachChange() {
        of(24, "each method that is a change, and returns no error, records the state before it (also if nothing is "
                + "different then);");
        for (Call each : allChanges()) {
            BottleneckShop shop = start("");
            due("before " + each.name, shop.count(9), 1);
            due(each.name + " is no error", each.ask.applyAsInt(shop) >= 0 ? 1 : 0, 1);
            due("after " + each.name, shop.count(9), 2);
        }
        BottleneckShop same = Shops.of("r0d0,0*1");
        same.takeBest();
        same.change(0, 1);
        same.save(0);
        same.restore(0);
        due("nothing is different three times", same.count(9), 4);
        BottleneckShop none = new BottleneckShop();
        none.save(0);
        none.takeBest();
        none.restore(0);
        loadPlan(none, "0:");
        due("nothing is different in an empty workshop", none.count(9), 3);
    }

    private static void othersAreNone() {
        of(24, "each method that is a change, and returns no error,");
        List<Call> others = new ArrayList<>();
        others.add(new Call("length", BottleneckShop::length));
        others.add(new Call("about", shop -> shop.about(0, 7)));
        others.add(new Call("path", shop -> shop.path(0)));
        others.add(new Call("order", shop -> shop.order(0, 0)));
        others.add(new Call("ofJob", shop -> shop.ofJob(0, 5)));
        others.add(new Call("count", shop -> shop.count(4)));
        others.add(new Call("bound", shop -> shop.bound(-1)));
        others.add(new Call("forced", shop -> shop.forced(10)));
        others.add(new Call("isForced", shop -> shop.isForced(10, 0, 5)));
        others.add(new Call("best", shop -> shop.best(0, 0)));
        others.add(new Call("breakdown", shop -> shop.breakdown(0, 1, 2, 0)));
        others.add(new Call("put", shop -> shop.put('r')));
        others.add(new Call("wipe", BottleneckShop::wipe));
        others.add(new Call("fault", shop -> shop.fault(0)));
        others.add(new Call("save", shop -> shop.save(1)));
        for (Call each : others) {
            BottleneckShop shop = start("");
            String before = Shops.state(shop);
            due(each.name + " is no error", each.ask.applyAsInt(shop) >= 0 ? 1 : 0, 1);
            due("after " + each.name, shop.count(9), 1);
            due("the state after " + each.name, Shops.state(shop), before);
        }
        BottleneckShop refused = start("x");
        int[] errors = {refused.job(51, 0), refused.operation(0, 0, 1), refused.change(2, 1), refused.swap(0, 1),
            refused.loadRoutes(), refused.loadPlan(), refused.restore(1), refused.restore(2)};
        for (int error : errors) {
            due("an error, whether it is one", error < 0 ? 1 : 0, 1);
        }
        due("after errors", refused.count(9), 1);
        BottleneckShop undone = start("");
        undone.undo();
        due("undo itself records nothing", undone.count(9), 0);
    }

    private static void undoAnswers() {
        of(24, "Returns how many changes can be undone then;");
        BottleneckShop shop = Shops.full(1);
        for (int left = 5; left >= 0; left--) {
            due("undo", shop.undo(), left);
            due("how many", shop.count(9), left);
        }

        of(24, "NOT_POSSIBLE if there is none.");
        due("of a new workshop", new BottleneckShop().undo(), NOT_POSSIBLE);
        due("of the oldest state", shop.undo(), NOT_POSSIBLE);
        due("again", shop.undo(), NOT_POSSIBLE);
        due("how many", shop.count(9), 0);
        due("the operations stay", shop.count(1), 11);
        shop.change(0, 2);
        due("after a change", shop.undo(), 0);
        due("none again", shop.undo(), NOT_POSSIBLE);
    }

    private static void save() {
        of(25, "Saves jobs, routes and the plan in a slot, and overwrites what was saved there.");
        for (int slot = 0; slot < 2; slot++) {
            BottleneckShop shop = Shops.crossing();
            shop.save(slot);
            String first = Shops.state(shop);
            shop.swap(1, 0);
            shop.job(50, 200);
            shop.operation(2, 3, 20);
            shop.change(0, 1);
            String second = Shops.state(shop);
            shop.restore(slot);
            due("what was saved", Shops.state(shop), first);
            shop.undo();
            shop.save(slot);
            loadRoutes(shop, "r0d0");
            shop.restore(slot);
            due("what was saved over it", Shops.state(shop), second);
            due("the other slot", shop.restore(1 - slot), NOT_POSSIBLE);
        }
        BottleneckShop both = new BottleneckShop();
        both.save(0);
        both.job(1, 1);
        both.save(1);
        both.job(2, 2);
        due("nothing in slot 0", both.restore(0), 0);
        due("one job in slot 1", both.restore(1), 1);
        both.put('r');
        both.save(0);
        both.wipe();
        both.restore(0);
        due("the pad is not saved", both.count(8), 0);
        BottleneckShop round = Shops.impossible();
        round.save(1);
        round.undo();
        round.restore(1);
        due("a plan that is not possible", round.count(7), 0);

        of(25, "`slot`: 0 or 1");
        range("slot", 0, 1, BAD_VALUE, slot -> Shops.crossing().save(slot), slot -> 2);

        of(25, "Returns the number of jobs; BAD_VALUE if there is no such slot.");
        due("no jobs", new BottleneckShop().save(1), 0);
        due("four jobs", Shops.full(1).save(0), 4);
        due("-1", new BottleneckShop().save(-1), BAD_VALUE);
        due("2", new BottleneckShop().save(2), BAD_VALUE);
    }

    private static void restore() {
        of(26, "Restores what was saved last in a slot, which keeps it.");
        BottleneckShop shop = Shops.crossing();
        shop.save(0);
        shop.change(0, 9);
        shop.save(0);
        shop.change(0, 20);
        shop.restore(0);
        due("what was saved last", shop.about(0, 1), 9);
        for (int round = 0; round < 8; round++) {
            shop.change(0, 1);
            shop.swap(0, 0);
            shop.restore(0);
            due("the slot keeps it", shop.about(0, 1), 9);
            due("the order, too", Shops.order(shop, 0), "01");
        }
        BottleneckShop full = Shops.full(7);
        full.save(1);
        String whole = Shops.state(full);
        loadRoutes(full, "r0d0");
        full.restore(1);
        due("a full workshop", Shops.state(full), whole);

        of(26, "This is a change.");
        BottleneckShop undone = start("");
        undone.change(0, 9);
        undone.restore(0);
        due("changes", undone.count(9), 3);
        undone.undo();
        due("undone", undone.about(0, 1), 9);
        due("the best one after undo", undone.best(-1, 0), 14);

        of(26, "`slot`: 0 or 1");
        range("slot", 0, 1, BAD_VALUE, slot -> {
            BottleneckShop two = Shops.crossing();
            two.save(0);
            two.job(0, 0);
            two.save(1);
            return two.restore(slot);
        }, slot -> 2 + slot);

        of(26, "Returns the number of jobs; BAD_VALUE if there is no such slot;");
        due("four jobs", full.restore(1), 4);
        due("-1, and nothing was saved", new BottleneckShop().restore(-1), BAD_VALUE);
        due("2, and nothing was saved", new BottleneckShop().restore(2), BAD_VALUE);

        of(26, "NOT_POSSIBLE if nothing was saved in it.");
        due("slot 0", new BottleneckShop().restore(0), NOT_POSSIBLE);
        due("slot 1", new BottleneckShop().restore(1), NOT_POSSIBLE);
        due("the other slot", full.restore(0), NOT_POSSIBLE);
        BottleneckShop empty = new BottleneckShop();
        empty.save(1);
        due("no jobs were saved", empty.restore(1), 0);
        due("the other slot", empty.restore(0), NOT_POSSIBLE);
    }
}
