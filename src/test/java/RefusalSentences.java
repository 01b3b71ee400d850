import java.util.ArrayList;
import java.util.LinkedHashMap;
import java.util.List;
import java.util.Map;
import java.util.function.Function;
import java.util.function.Supplier;
import java.util.function.ToIntFunction;

/** Terms, the conventions: the errors, their order, and that a refused call changes nothing. */
final class RefusalSentences extends Sentences {
    private static final int LEAST = Integer.MIN_VALUE, GREATEST = Integer.MAX_VALUE;
    private static final String A_PLAN = "0:10;1:01";
    private static final String A_FAULTY_PLAN = "0:0;1:01";

    /** A call that is refused, and the error that is due. */
    private static final class Refused {
        final String name;
        final int error;
        final ToIntFunction<BottleneckShop> ask;

        Refused(String name, int error, ToIntFunction<BottleneckShop> ask) {
            this.name = name;
            this.error = error;
            this.ask = ask;
        }
    }

    private RefusalSentences() {
    }

    static void run() {
        nothingDueBy(TERMS, "CONVENTIONS.");
        nothingDueBy(TERMS, "Divisions are rounded down.");
        nothingDueBy(TERMS, "Sets are bit masks.");
        nothingDueBy(TERMS, "Jobs, routes, plans");
        nothingDueBy(TERMS, "Heads, tails, length");
        codes();
        order();
        changesNothing();
        none();
    }

    private static void codes() {
        terms("A method that fails returns one of the error codes NO_SUCH (-1), BAD_VALUE (-2), BAD_TEXT (-3), TOO_MANY (-4) and "
                + "NOT_POSSIBLE (-5);");
        BottleneckShop shop = new BottleneckShop();
        due("no such operation", shop.change(0, 1), -1);
        due("a bad value", shop.job(51, 0), -2);
        due("a bad text", shop.loadPlan(), -3);
        due("too many jobs", Shops.full(1).job(0, 0), -4);
        due("not possible", shop.undo(), -5);

        terms("The constants: `NO_SUCH = -1, BAD_VALUE = -2, BAD_TEXT = -3, TOO_MANY = -4, NOT_POSSIBLE = -5, NONE = -6`: Error "
                + "codes, and NONE: there is none.");
        due("NO_SUCH", BottleneckShop.NO_SUCH, -1);
        due("BAD_VALUE", BottleneckShop.BAD_VALUE, -2);
        due("BAD_TEXT", BottleneckShop.BAD_TEXT, -3);
        due("TOO_MANY", BottleneckShop.TOO_MANY, -4);
        due("NOT_POSSIBLE", BottleneckShop.NOT_POSSIBLE, -5);
        due("NONE", BottleneckShop.NONE, -6);
    }

    private static BottleneckShop padOf(BottleneckShop shop, String text) {
        Shops.put(shop, text);
        return shop;
    }

    /** Each two errors of a method, where a call deserves both. */
    private static void order() {
        terms("it names its errors in the order in which they are checked, and the first one that applies is returned.");
        BottleneckShop full = Shops.full(1);
        BottleneckShop round = Shops.impossible();
        due("job: BAD_VALUE ahead of TOO_MANY", full.job(0, 201), BAD_VALUE);
        due("operation: NO_SUCH ahead of BAD_VALUE, the machine", full.operation(4, 4, 1), NO_SUCH);
        due("operation: NO_SUCH ahead of BAD_VALUE, the duration", full.operation(-1, 0, 0), NO_SUCH);
        due("operation: BAD_VALUE ahead of NOT_POSSIBLE, the machine", full.operation(0, 4, 1), BAD_VALUE);
        due("operation: BAD_VALUE ahead of NOT_POSSIBLE, the duration", full.operation(0, 0, 21), BAD_VALUE);
        due("change: NO_SUCH ahead of BAD_VALUE", full.change(16, 0), NO_SUCH);
        due("swap: BAD_VALUE ahead of NO_SUCH", full.swap(4, 3), BAD_VALUE);
        due("about: NO_SUCH ahead of BAD_VALUE", full.about(16, 8), NO_SUCH);
        due("about: NO_SUCH ahead of NONE", round.about(2, 3), NO_SUCH);
        due("about: BAD_VALUE ahead of NONE", round.about(0, 8), BAD_VALUE);
        due("order: BAD_VALUE ahead of NONE", full.order(4, 4), BAD_VALUE);
        due("ofJob: NO_SUCH ahead of BAD_VALUE", full.ofJob(4, 6), NO_SUCH);
        due("ofJob: NO_SUCH ahead of NONE", round.ofJob(2, 4), NO_SUCH);
        due("ofJob: BAD_VALUE ahead of NONE", round.ofJob(0, 6), BAD_VALUE);
        due("count: BAD_VALUE ahead of NONE", round.count(10), BAD_VALUE);
        due("forced: BAD_VALUE ahead of NONE", full.forced(-1), BAD_VALUE);
        due("isForced: NO_SUCH ahead of BAD_VALUE, the limit", full.isForced(501, 16, 0), NO_SUCH);
        due("isForced: NO_SUCH ahead of BAD_VALUE, the same", full.isForced(10, 16, 16), NO_SUCH);
        due("isForced: BAD_VALUE ahead of NONE, the limit", full.isForced(-1, 0, 7), BAD_VALUE);
        due("isForced: BAD_VALUE ahead of NONE, other machines", full.isForced(0, 0, 1), BAD_VALUE);
        due("best: BAD_VALUE ahead of NONE", full.best(4, 4), BAD_VALUE);
        due("breakdown: BAD_VALUE ahead of NOT_POSSIBLE", round.breakdown(4, 0, 0, -1), BAD_VALUE);
        due("breakdown: BAD_VALUE ahead of NONE", Shops.crossing().breakdown(0, 0, 401, 15), BAD_VALUE);
        due("breakdown: NOT_POSSIBLE ahead of NONE", round.breakdown(0, 0, 0, 15), NOT_POSSIBLE);
        due("put: BAD_VALUE ahead of TOO_MANY", padOf(new BottleneckShop(), Shops.FULL_PAD).put(32), BAD_VALUE);
        due("fault: BAD_VALUE ahead of NONE", padOf(new BottleneckShop(), "r0d0").fault(2), BAD_VALUE);
        due("loadPlan: BAD_TEXT ahead of NOT_POSSIBLE", padOf(Shops.crossing(), "0:0;1:1;").loadPlan(), BAD_TEXT);
        due("restore: BAD_VALUE ahead of NOT_POSSIBLE", new BottleneckShop().restore(2), BAD_VALUE);
    }

    /** Workshops in which calls are refused: each one is made anew for every call. */
    private static Map<String, Supplier<BottleneckShop>> places() {
        Map<String, Supplier<BottleneckShop>> all = new LinkedHashMap<>();
        all.put("an empty workshop", BottleneckShop::new);
        all.put("two jobs", () -> busy(A_PLAN));
        all.put("two jobs and a plan that they do not have", () -> busy(A_FAULTY_PLAN));
        all.put("a plan that is not possible", () -> {
            BottleneckShop shop = busy(A_PLAN);
            shop.swap(0, 0);
            due("the swap that makes a way round", shop.swap(1, 0), 0);
            return shop;
        });
        all.put("all full", RefusalSentences::full);
        return all;
    }

    /** Two jobs in the best plan, four changes, two states saved, and a text on the pad. */
    private static BottleneckShop busy(String pad) {
        BottleneckShop shop = Shops.crossing();
        shop.save(0);
        shop.change(0, 6);
        shop.takeBest();
        shop.save(1);
        shop.change(0, 5);
        Shops.put(shop, pad);
        return shop;
    }

    /** All jobs and operations, six states in the history, two saved, and 80 characters on the pad. */
    private static BottleneckShop full() {
        BottleneckShop shop = Shops.full(3);
        shop.save(0);
        shop.change(0, 4);
        shop.takeBest();
        shop.save(1);
        shop.change(15, 2);
        Shops.put(shop, Shops.FULL_PAD);
        return shop;
    }

    private static List<Refused> refusedEverywhere() {
        List<Refused> all = new ArrayList<>();
        for (int bad : new int[] {-1, 51, LEAST, GREATEST}) {
            all.add(new Refused("job(" + bad + ", 0)", BAD_VALUE, shop -> shop.job(bad, 0)));
        }
        for (int bad : new int[] {-1, 201, LEAST, GREATEST}) {
            all.add(new Refused("job(0, " + bad + ")", BAD_VALUE, shop -> shop.job(0, bad)));
        }
        for (int bad : new int[] {-1, 4, LEAST, GREATEST}) {
            all.add(new Refused("operation(" + bad + ", 0, 1)", NO_SUCH, shop -> shop.operation(bad, 0, 1)));
            all.add(new Refused("swap(" + bad + ", 0)", BAD_VALUE, shop -> shop.swap(bad, 0)));
            all.add(new Refused("order(" + bad + ", 0)", BAD_VALUE, shop -> shop.order(bad, 0)));
            all.add(new Refused("ofJob(" + bad + ", 0)", NO_SUCH, shop -> shop.ofJob(bad, 0)));
            all.add(new Refused("breakdown(" + bad + ", 0, 0, -1)", BAD_VALUE, shop -> shop.breakdown(bad, 0, 0, -1)));
        }
        for (int bad : new int[] {-1, 3, LEAST, GREATEST}) {
            all.add(new Refused("swap(0, " + bad + ")", NO_SUCH, shop -> shop.swap(0, bad)));
        }
        for (int bad : new int[] {-1, 16, LEAST, GREATEST}) {
            all.add(new Refused("change(" + bad + ", 1)", NO_SUCH, shop -> shop.change(bad, 1)));
            all.add(new Refused("about(" + bad + ", 0)", NO_SUCH, shop -> shop.about(bad, 0)));
            all.add(new Refused("isForced(10, 0, " + bad + ")", NO_SUCH, shop -> shop.isForced(10, 0, bad)));
        }
        for (int bad : new int[] {-2, 4, LEAST, GREATEST}) {
            all.add(new Refused("bound(" + bad + ")", BAD_VALUE, shop -> shop.bound(bad)));
            all.add(new Refused("best(" + bad + ", 0)", BAD_VALUE, shop -> shop.best(bad, 0)));
        }
        refusedTimes(all);
        return all;
    }

    private static void refusedTimes(List<Refused> all) {
        for (int bad : new int[] {-1, 10, LEAST, GREATEST}) {
            all.add(new Refused("count(" + bad + ")", BAD_VALUE, shop -> shop.count(bad)));
        }
        for (int bad : new int[] {-1, 501, LEAST, GREATEST}) {
            all.add(new Refused("forced(" + bad + ")", BAD_VALUE, shop -> shop.forced(bad)));
        }
        for (int bad : new int[] {-1, 201, LEAST, GREATEST}) {
            all.add(new Refused("breakdown(0, " + bad + ", 400, -1)", BAD_VALUE, shop -> shop.breakdown(0, bad, 400, -1)));
        }
        for (int bad : new int[] {4, 401, LEAST, GREATEST}) {
            all.add(new Refused("breakdown(0, 5, " + bad + ", -1)", BAD_VALUE, shop -> shop.breakdown(0, 5, bad, -1)));
        }
        for (int bad : new int[] {-2, 16, LEAST, GREATEST}) {
            all.add(new Refused("breakdown(0, 5, 9, " + bad + ")", BAD_VALUE, shop -> shop.breakdown(0, 5, 9, bad)));
        }
        for (long bad : new long[] {0, 32, 127, 'r' << 8, -1, Long.MIN_VALUE, Long.MAX_VALUE}) {
            all.add(new Refused("put(" + bad + ")", BAD_VALUE, shop -> shop.put(bad)));
        }
        for (int bad : new int[] {-1, 2, LEAST, GREATEST}) {
            all.add(new Refused("fault(" + bad + ")", BAD_VALUE, shop -> shop.fault(bad)));
            all.add(new Refused("save(" + bad + ")", BAD_VALUE, shop -> shop.save(bad)));
            all.add(new Refused("restore(" + bad + ")", BAD_VALUE, shop -> shop.restore(bad)));
        }
    }

    /** What is refused where jobs 0 and 1 have operations on the machines 0 and 1. */
    private static void refusedWithJobs(List<Refused> all) {
        for (int bad : new int[] {-1, 4, LEAST, GREATEST}) {
            all.add(new Refused("operation(1, " + bad + ", 1)", BAD_VALUE, shop -> shop.operation(1, bad, 1)));
        }
        for (int bad : new int[] {0, 21, LEAST, GREATEST}) {
            all.add(new Refused("operation(1, 3, " + bad + ")", BAD_VALUE, shop -> shop.operation(1, 3, bad)));
            all.add(new Refused("change(5, " + bad + ")", BAD_VALUE, shop -> shop.change(5, bad)));
        }
        for (int bad : new int[] {-1, 8, LEAST, GREATEST}) {
            all.add(new Refused("about(0, " + bad + ")", BAD_VALUE, shop -> shop.about(0, bad)));
        }
        for (int bad : new int[] {-1, 6, LEAST, GREATEST}) {
            all.add(new Refused("ofJob(0, " + bad + ")", BAD_VALUE, shop -> shop.ofJob(0, bad)));
        }
        for (int bad : new int[] {-1, 501, LEAST, GREATEST}) {
            all.add(new Refused("isForced(" + bad + ", 0, 5)", BAD_VALUE, shop -> shop.isForced(bad, 0, 5)));
        }
        all.add(new Refused("operation(1, 0, 1)", NOT_POSSIBLE, shop -> shop.operation(1, 0, 1)));
        all.add(new Refused("isForced(10, 0, 0)", BAD_VALUE, shop -> shop.isForced(10, 0, 0)));
        all.add(new Refused("isForced(10, 0, 1)", BAD_VALUE, shop -> shop.isForced(10, 0, 1)));
        all.add(new Refused("loadRoutes()", BAD_TEXT, shop -> shop.loadRoutes()));
    }

    private static List<Refused> refusedIn(String place) {
        List<Refused> all = refusedEverywhere();
        switch (place) {
            case "an empty workshop":
                all.add(new Refused("operation(0, 0, 1)", NO_SUCH, shop -> shop.operation(0, 0, 1)));
                all.add(new Refused("change(0, 1)", NO_SUCH, shop -> shop.change(0, 1)));
                all.add(new Refused("swap(0, 0)", NO_SUCH, shop -> shop.swap(0, 0)));
                all.add(new Refused("loadRoutes()", BAD_TEXT, BottleneckShop::loadRoutes));
                all.add(new Refused("loadPlan()", BAD_TEXT, BottleneckShop::loadPlan));
                all.add(new Refused("improve()", NOT_POSSIBLE, BottleneckShop::improve));
                all.add(new Refused("undo()", NOT_POSSIBLE, BottleneckShop::undo));
                all.add(new Refused("restore(0)", NOT_POSSIBLE, shop -> shop.restore(0)));
                all.add(new Refused("restore(1)", NOT_POSSIBLE, shop -> shop.restore(1)));
                break;
            case "two jobs":
                refusedWithJobs(all);
                all.add(new Refused("swap(0, 1)", NO_SUCH, shop -> shop.swap(0, 1)));
                all.add(new Refused("swap(2, 0)", NO_SUCH, shop -> shop.swap(2, 0)));
                all.add(new Refused("change(2, 1)", NO_SUCH, shop -> shop.change(2, 1)));
                all.add(new Refused("improve()", NOT_POSSIBLE, BottleneckShop::improve));
                break;
            case "two jobs and a plan that they do not have":
                refusedWithJobs(all);
                all.add(new Refused("loadPlan()", NOT_POSSIBLE, BottleneckShop::loadPlan));
                break;
            case "a plan that is not possible":
                refusedWithJobs(all);
                all.add(new Refused("improve()", NOT_POSSIBLE, BottleneckShop::improve));
                all.add(new Refused("breakdown(0, 0, 0, -1)", NOT_POSSIBLE, shop -> shop.breakdown(0, 0, 0, -1)));
                break;
            default:
                all.add(new Refused("job(0, 0)", TOO_MANY, shop -> shop.job(0, 0)));
                all.add(new Refused("operation(3, 0, 1)", NOT_POSSIBLE, shop -> shop.operation(3, 0, 1)));
                all.add(new Refused("operation(3, 4, 1)", BAD_VALUE, shop -> shop.operation(3, 4, 1)));
                all.add(new Refused("put('1')", TOO_MANY, shop -> shop.put('1')));
                all.add(new Refused("put of eight", TOO_MANY, shop -> shop.put(Shops.number("12345678"))));
                all.add(new Refused("loadPlan()", BAD_TEXT, BottleneckShop::loadPlan));
                all.add(new Refused("improve()", NOT_POSSIBLE, BottleneckShop::improve));
                all.add(new Refused("change(15, 0)", BAD_VALUE, shop -> shop.change(15, 0)));
                break;
        }
        return all;
    }

    /** Looks at all that a workshop keeps, some of it by taking it. */
    private static List<Function<BottleneckShop, String>> looks() {
        List<Function<BottleneckShop, String>> all = new ArrayList<>();
        all.add(Shops::answers);
        for (int slot = 0; slot < 2; slot++) {
            int each = slot;
            all.add(shop -> shop.restore(each) + " " + Shops.state(shop) + " " + shop.count(9));
        }
        for (int undone = 1; undone <= 7; undone++) {
            int times = undone;
            all.add(shop -> {
                StringBuilder text = new StringBuilder();
                for (int i = 0; i < times; i++) {
                    text.append(shop.undo()).append(' ');
                }
                return text.append(Shops.state(shop)).toString();
            });
        }
        all.add(shop -> shop.loadRoutes() + " " + Shops.state(shop));
        all.add(shop -> shop.loadPlan() + " " + Shops.state(shop));
        all.add(shop -> shop.put('1') + " " + shop.fault(0) + " " + shop.fault(1) + " " + shop.wipe());
        return all;
    }

    private static void changesNothing() {
        terms("A call that returns an error changes nothing.");
        for (Map.Entry<String, Supplier<BottleneckShop>> place : places().entrySet()) {
            List<Function<BottleneckShop, String>> looks = looks();
            List<String> without = new ArrayList<>();
            for (Function<BottleneckShop, String> look : looks) {
                without.add(look.apply(place.getValue().get()));
            }
            for (Refused each : refusedIn(place.getKey())) {
                for (int i = 0; i < looks.size(); i++) {
                    BottleneckShop shop = place.getValue().get();
                    String name = each.name + " in " + place.getKey();
                    due(name, each.ask.applyAsInt(shop), each.error);
                    due("look " + i + " behind " + name, looks.get(i).apply(shop), without.get(i));
                }
            }
        }
    }

    private static void none() {
        terms("NONE (-6) is not an error; it is returned only if no error applies.");
        BottleneckShop round = Shops.impossible();
        due("length", round.length(), -6);
        due("about", round.about(0, 3), -6);
        due("about, and an error", round.about(2, 3), NO_SUCH);
        due("path", round.path(-1), -6);
        due("order", round.order(0, -1), -6);
        due("order, and an error", round.order(-1, -1), BAD_VALUE);
        due("ofJob", round.ofJob(0, 4), -6);
        due("ofJob, and an error", round.ofJob(2, 4), NO_SUCH);
        due("count", round.count(3), -6);
        due("forced", round.forced(0), -6);
        due("isForced", round.isForced(0, 0, 5), -6);
        due("isForced, and an error", round.isForced(0, 0, 4), BAD_VALUE);
        due("best", round.best(3, 0), -6);
        due("best, and an error", round.best(4, 0), BAD_VALUE);
        due("breakdown, and an error", round.breakdown(0, 0, 0, 15), NOT_POSSIBLE);
        round.undo();
        due("breakdown", round.breakdown(0, 0, 0, 15), -6);
        due("fault", padOf(round, "0:").fault(1), -6);
        due("fault, and an error", round.fault(2), BAD_VALUE);
    }
}
