/** Workshops to start from, and what they answer, as texts. */
final class Shops {
    private static final int NONE = -6;
    /** As many characters as the pad can hold; they are read as three jobs. */
    static final String FULL_PAD = "r50d200,0*20,1*20,2*20,3*20;r50d200,0*20,1*20,2*20,3*20;r50d200,0*2,1*2,2*2,3*20";

    private Shops() {
    }

    static long number(String text) {
        long number = 0;
        for (char c : text.toCharArray()) {
            number = number << 8 | c;
        }
        return number;
    }

    static int put(BottleneckShop shop, String text) {
        int length = shop.count(8);
        for (int at = 0; at < text.length(); at += 8) {
            length = shop.put(number(text.substring(at, Math.min(text.length(), at + 8))));
        }
        return length;
    }

    static BottleneckShop of(String routes) {
        BottleneckShop shop = new BottleneckShop();
        put(shop, routes);
        int jobs = routes.split(";").length;
        if (shop.loadRoutes() != jobs) {
            throw new IllegalArgumentException("no routes: " + routes);
        }
        return shop;
    }

    static BottleneckShop of(String routes, String plan) {
        BottleneckShop shop = of(routes);
        put(shop, plan);
        if (shop.loadPlan() < 0) {
            throw new IllegalArgumentException("no plan: " + plan);
        }
        return shop;
    }

    /** Two jobs that meet on the machines 0 and 1 the other way round; the first one goes first on both. */
    static BottleneckShop crossing() {
        return of("r0d10,0*5,1*5;r0d10,1*5,0*5");
    }

    /** The same with a way round. */
    static BottleneckShop impossible() {
        BottleneckShop shop = crossing();
        shop.swap(0, 0);
        return shop;
    }

    /** Four jobs with four operations each: job j goes to the machines j, j + 1 and so on, and from 3 on to 0. */
    static BottleneckShop full(int duration) {
        BottleneckShop shop = new BottleneckShop();
        for (int job = 0; job < 4; job++) {
            shop.job(0, 0);
            for (int step = 0; step < 4; step++) {
                shop.operation(job, (job + step) % 4, duration);
            }
        }
        return shop;
    }

    /** The longest plan that there is: four operations each, all sixteen one after the other. */
    static BottleneckShop longest() {
        BottleneckShop shop = new BottleneckShop();
        for (int job = 0; job < 4; job++) {
            shop.job(50, 0);
            for (int step = 0; step < 4; step++) {
                shop.operation(job, job % 2 == 0 ? step : 3 - step, 20);
            }
        }
        return shop;
    }

    static String orders(BottleneckShop shop) {
        StringBuilder text = new StringBuilder();
        for (int machine = 0; machine < 4; machine++) {
            text.append(machine > 0 ? ";" : "").append(machine).append(':').append(order(shop, machine));
        }
        return text.toString();
    }

    static String order(BottleneckShop shop, int machine) {
        StringBuilder text = new StringBuilder();
        for (int place = 0; place < 5; place++) {
            add(text, shop.order(machine, place));
        }
        return text.toString();
    }

    static String bestOrders(BottleneckShop shop) {
        StringBuilder text = new StringBuilder();
        for (int machine = 0; machine < 4; machine++) {
            text.append(machine > 0 ? ";" : "").append(machine).append(':');
            for (int place = 0; place < 5; place++) {
                add(text, shop.best(machine, place));
            }
        }
        return text.toString();
    }

    static String ordersAfter(BottleneckShop shop, int machine, int from, int until) {
        StringBuilder text = new StringBuilder();
        for (int what = 0; what < 16; what++) {
            if (what % 4 == 0) {
                text.append(what > 0 ? ";" : "").append(what / 4).append(':');
            }
            add(text, shop.breakdown(machine, from, until, what));
        }
        return text.toString();
    }

    private static void add(StringBuilder text, int answer) {
        if (answer != NONE) {
            text.append(answer);
        }
    }

    /** The operations of the critical path, up to the first place without one. */
    static String path(BottleneckShop shop) {
        StringBuilder text = new StringBuilder();
        for (int place = 0; place < 17 && shop.path(place) != NONE; place++) {
            text.append(place > 0 ? " " : "").append(shop.path(place));
        }
        return text.toString();
    }

    static String about(BottleneckShop shop, int operation) {
        StringBuilder text = new StringBuilder();
        for (int what = 0; what < 8; what++) {
            text.append(what > 0 ? " " : "").append(shop.about(operation, what));
        }
        return text.toString();
    }

    static String heads(BottleneckShop shop) {
        return aboutAll(shop, 3);
    }

    static String tails(BottleneckShop shop) {
        return aboutAll(shop, 4);
    }

    private static String aboutAll(BottleneckShop shop, int what) {
        StringBuilder text = new StringBuilder();
        for (int operation = 0; operation < 16; operation++) {
            if (shop.about(operation, 0) >= 0) {
                text.append(text.length() > 0 ? " " : "").append(shop.about(operation, what));
            }
        }
        return text.toString();
    }

    static String counts(BottleneckShop shop) {
        StringBuilder text = new StringBuilder();
        for (int what = 0; what < 10; what++) {
            text.append(what > 0 ? " " : "").append(shop.count(what));
        }
        return text.toString();
    }

    /** Jobs, routes and the plan. */
    static String state(BottleneckShop shop) {
        StringBuilder text = new StringBuilder(orders(shop));
        for (int job = 0; job < 4; job++) {
            text.append(" r").append(shop.ofJob(job, 0)).append('d').append(shop.ofJob(job, 1));
            for (int step = 0; step < 4; step++) {
                text.append(',').append(shop.about(4 * job + step, 0)).append('*').append(shop.about(4 * job + step, 1));
            }
        }
        return text.toString();
    }

    /** What all kinds of questions answer. */
    static String answers(BottleneckShop shop) {
        StringBuilder text = new StringBuilder(state(shop)).append(' ').append(shop.length());
        text.append(" counts ").append(counts(shop)).append(" path ").append(path(shop));
        for (int operation = 0; operation < 16; operation++) {
            for (int what = 2; what < 8; what++) {
                text.append(what == 2 ? " / " : " ").append(shop.about(operation, what));
            }
        }
        for (int job = 0; job < 4; job++) {
            text.append(" / ").append(shop.ofJob(job, 2)).append(' ').append(shop.ofJob(job, 3));
            text.append(' ').append(shop.ofJob(job, 4)).append(' ').append(shop.ofJob(job, 5));
        }
        text.append(" bounds");
        for (int machine = -1; machine < 4; machine++) {
            text.append(' ').append(shop.bound(machine));
        }
        int bound = shop.bound(-1);
        text.append(" forced ").append(shop.forced(bound)).append(' ').append(shop.forced(bound + 2));
        text.append(' ').append(shop.isForced(bound, 0, 5)).append(" best ").append(shop.best(-1, 0));
        text.append(' ').append(bestOrders(shop)).append(" breakdown ").append(shop.breakdown(0, 3, 9, -1));
        text.append(' ').append(ordersAfter(shop, 0, 3, 9));
        return text.append(" faults ").append(shop.fault(0)).append(' ').append(shop.fault(1)).toString();
    }
}
