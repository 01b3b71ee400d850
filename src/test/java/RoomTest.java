import java.lang.management.ManagementFactory;

/** All calls of a run live in one room: an object is made with all that it needs, and its calls make nothing. */
public final class RoomTest {
    private static final long MOST_FOR_AN_OBJECT = 40_000;
    private static final long MOST_FOR_THE_CALLS = 20_000;

    private static long bytes() {
        return ((com.sun.management.ThreadMXBean) ManagementFactory.getThreadMXBean()).getThreadAllocatedBytes(
                Thread.currentThread().getId());
    }

    private static void put(BottleneckShop shop, String text) {
        for (int i = 0; i < text.length(); i++) {
            shop.put(text.charAt(i));
        }
    }

    private static int calls(BottleneckShop shop, String routes, String plan) {
        int sum = 0;
        put(shop, routes);
        sum += shop.fault(0) + shop.loadRoutes();
        put(shop, plan);
        sum += shop.fault(1) + shop.loadPlan();
        for (int i = 0; i < 16; i++) {
            sum += shop.change(i, 1 + i) + shop.best(-1, 0) + shop.breakdown(i % 4, i, 2 * i, i) + shop.improve();
            sum += shop.forced(40 + i) + shop.isForced(40 + i, 0, i) + shop.bound(-1) + shop.about(i, 7) + shop.path(i);
            sum += shop.swap(i % 4, i % 3) + shop.length() + shop.count(i % 10) + shop.ofJob(i % 4, 5) + shop.takeBest();
            sum += shop.save(i % 2) + shop.restore(i % 2) + shop.undo() + shop.order(i % 4, 0) + shop.wipe();
        }
        return sum;
    }

    public static void main(String[] args) {
        String routes = "r0d9,0*1,1*1,2*1,3*1;r0d9,1*2,0*2,3*2,2*2;r0d9,3*1,2*1,1*1,0*1;r0d9,2*1,0*1,3*1";
        String plan = "0:0123;1:012;2:0123;3:0123";
        calls(new BottleneckShop(), routes, plan);
        long before = bytes();
        BottleneckShop shop = new BottleneckShop();
        long made = bytes() - before;
        before = bytes();
        int sum = calls(shop, routes, plan);
        long more = bytes() - before;
        System.out.println("an object takes " + made + " bytes, its calls " + more + " (sum " + sum + ")");
        if (made > MOST_FOR_AN_OBJECT || more > MOST_FOR_THE_CALLS) {
            System.out.println("that is too much");
            System.exit(1);
        }
    }
}
