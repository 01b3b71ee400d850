import java.util.function.IntFunction;

/** Terms about texts, and the promises 19 to 23. */
final class TextSentences extends Sentences {
    private static final int ROUTES = 0, PLAN = 1;
    private static final int FIRST_SIGN = 33, LAST_SIGN = 126;
    private static final String DIGITS = "0123456789";

    private TextSentences() {
    }

    static void run() {
        pad();
        routes();
        plans();
        faultsOfNumbers();
        faultsOfRoutes();
        faultsOfPlans();
        endsTooEarly();
        put();
        wipe();
        fault();
        loadRoutes();
        loadPlan();
    }

    private static BottleneckShop padOf(String text) {
        BottleneckShop shop = new BottleneckShop();
        if (Shops.put(shop, text) != text.length()) {
            throw new IllegalArgumentException("too long: " + text);
        }
        return shop;
    }

    private static void faultOf(int kind, String text, int want) {
        due((kind == ROUTES ? "routes " : "plan ") + text, padOf(text).fault(kind), want);
    }

    /** Behind the text just these signs can stand; with each other one the fault is there. */
    private static void goesOnWith(int kind, String text, String signs) {
        for (char sign = FIRST_SIGN; sign <= LAST_SIGN; sign++) {
            int fault = padOf(text + sign).fault(kind);
            boolean stands = signs.indexOf(sign) >= 0;
            due((kind == ROUTES ? "routes " : "plan ") + text + " with " + sign + " behind it, whether it is refused",
                    fault == text.length() ? 1 : 0, stands ? 0 : 1);
        }
    }

    private static void pad() {
        terms("The pad is a text of at most 80 characters.");
        due("80 characters", padOf(Shops.FULL_PAD).count(8), 80);
        due("one more", padOf(Shops.FULL_PAD).put('1'), TOO_MANY);
        due("the 80 are read", padOf(Shops.FULL_PAD).fault(ROUTES), NONE);
        due("the last one of the 80 is read", padOf(Shops.FULL_PAD.substring(0, 79) + "x").fault(ROUTES), 79);
        String most = Shops.FULL_PAD.substring(0, 56) + "r50d200,0*20,1*20,2*20";
        due("the last one of the 80 stands", padOf(most + ";r").fault(ROUTES), 80);
        due("the last one of the 80 does not stand", padOf(most + ";d").fault(ROUTES), 79);
        due("they are loaded", padOf(Shops.FULL_PAD).loadRoutes(), 3);
    }

    private static void routes() {
        terms("As routes it is read like this:");
        due("routes", padOf("r0d0,0*1;r0d0").fault(ROUTES), NONE);

        terms("routes = job { \";\" job }");
        faultOf(ROUTES, "r0d0", NONE);
        faultOf(ROUTES, "r0d0;r0d0", NONE);
        faultOf(ROUTES, "r0d0;r0d0;r0d0;r0d0", NONE);
        faultOf(ROUTES, ";r0d0", 0);
        faultOf(ROUTES, "r0d0;;r0d0", 5);
        faultOf(ROUTES, "r0d0r0d0", 4);
        goesOnWith(ROUTES, "", "r");
        goesOnWith(ROUTES, "r0d0;", "r");
        goesOnWith(ROUTES, "r0d0,0*1;", "r");

        terms("job = \"r\" number \"d\" number { \",\" machine \"*\" number }");
        goesOnWith(ROUTES, "r", DIGITS);
        goesOnWith(ROUTES, "r9", "d");
        goesOnWith(ROUTES, "r50", "d");
        goesOnWith(ROUTES, "r9d", DIGITS);
        goesOnWith(ROUTES, "r9d200", ",;");
        goesOnWith(ROUTES, "r9d9,", "0123");
        goesOnWith(ROUTES, "r9d9,3", "*");
        goesOnWith(ROUTES, "r9d9,3*", "123456789");
        goesOnWith(ROUTES, "r9d9,3*20", ",;");
        goesOnWith(ROUTES, "r9d9,3*20,", "012");
        goesOnWith(ROUTES, "r9d9,3*20,0*1,2*1,", "1");
        goesOnWith(ROUTES, "r9d9,3*20,0*1,2*1,1*9", ";");
        due("no operations", padOf("r0d0").loadRoutes(), 1);

        terms("for a job with its release (0 to 50), its due date (0 to 200), and operations with their machine (0 to 3) and "
                + "duration (1 to 20).");
        for (int release = 0; release <= 50; release++) {
            due("release " + release, Shops.of("r" + release + "d7").ofJob(0, 0), release);
        }
        for (int date = 0; date <= 200; date++) {
            due("due date " + date, Shops.of("r7d" + date).ofJob(0, 1), date);
        }
        for (int machine = 0; machine <= 3; machine++) {
            due("machine " + machine, Shops.of("r0d0," + machine + "*1").about(0, 0), machine);
        }
        for (int duration = 1; duration <= 20; duration++) {
            due("duration " + duration, Shops.of("r0d0,0*" + duration).about(0, 1), duration);
        }
        faultOf(ROUTES, "r51d0", 2);
        faultOf(ROUTES, "r0d201", 5);
        faultOf(ROUTES, "r0d0,4*1", 5);
        faultOf(ROUTES, "r0d0,0*0", 7);
        faultOf(ROUTES, "r0d0,0*21", 8);
    }

    private static void plans() {
        terms("As a plan it is read like this:");
        due("a plan", padOf("0:1;2:03").fault(PLAN), NONE);

        terms("plan = order { \";\" order }");
        faultOf(PLAN, "0:", NONE);
        faultOf(PLAN, "0:;1:", NONE);
        faultOf(PLAN, "0:;1:;2:;3:", NONE);
        faultOf(PLAN, "0:0123;1:0123;2:0123;3:0123", NONE);
        faultOf(PLAN, ";0:", 0);
        faultOf(PLAN, "0:;;1:", 3);
        goesOnWith(PLAN, "", "0123");
        goesOnWith(PLAN, "2:;", "013");
        goesOnWith(PLAN, "2:;0:1;", "13");
        goesOnWith(PLAN, "2:;0:;3:;", "1");

        terms("order = machine \":\" { job }");
        goesOnWith(PLAN, "0", ":");
        goesOnWith(PLAN, "3", ":");
        goesOnWith(PLAN, "0:", "0123;");
        goesOnWith(PLAN, "0:2", "013;");
        goesOnWith(PLAN, "0:23", "01;");
        goesOnWith(PLAN, "0:230", "1;");
        goesOnWith(PLAN, "0:2301", ";");
        goesOnWith(PLAN, "0:;1", ":");
        goesOnWith(PLAN, "0:;1:", "0123;");
        goesOnWith(PLAN, "3:;2:;1:;0:", "0123");
        goesOnWith(PLAN, "3:;2:;1:;0:3210", "");

        terms("with machines and jobs as digits 0 to 3;");
        for (int digit = 0; digit < 10; digit++) {
            faultOf(PLAN, digit + ":", digit < 4 ? NONE : 0);
            faultOf(PLAN, "0:" + digit, digit < 4 ? NONE : 2);
        }

        terms("no job twice in an order, no machine twice in a plan.");
        for (int digit = 0; digit < 4; digit++) {
            faultOf(PLAN, "0:" + digit + digit, 3);
            faultOf(PLAN, "0:" + digit + ";1:" + digit, NONE);
            faultOf(PLAN, digit + ":;" + digit + ":", 3);
            faultOf(PLAN, digit + ":" + digit, NONE);
        }
        faultOf(PLAN, "0:0120", 5);
        faultOf(PLAN, "0:01233", 6);
        faultOf(PLAN, "1:;0:;2:;1:", 9);
    }

    private static void faultsOfNumbers() {
        terms("Numbers are without leading zeros.");
        faultOf(ROUTES, "r0d0", NONE);
        goesOnWith(ROUTES, "r0", "d");
        goesOnWith(ROUTES, "r0d0", ",;");
        faultOf(ROUTES, "r00d0", 2);
        faultOf(ROUTES, "r01d0", 2);
        faultOf(ROUTES, "r0d00", 4);
        faultOf(ROUTES, "r0d09", 4);
        faultOf(ROUTES, "r0d0,0*01", 7);
        faultOf(ROUTES, "r0d0,00*1", 6);
        faultOf(ROUTES, "r10d100,0*10", NONE);

        terms("The fault is the index of the first character that cannot stand at its place when the text is read from left to "
                + "right");
        faultOf(ROUTES, "x", 0);
        faultOf(ROUTES, "xx", 0);
        faultOf(ROUTES, "r0d0,0*1!", 8);
        faultOf(ROUTES, "r0d0,0x1!", 6);
        faultOf(ROUTES, "r0d0!r", 4);
        faultOf(PLAN, "x", 0);
        faultOf(PLAN, "0:0x;;", 3);
        faultOf(PLAN, "r0d0", 0);
        faultOf(ROUTES, "0:0", 0);
        String three = "r50d200,0*20,1*20,2*20,3*20;r50d200,0*20,1*20,2*20,3*20;";
        faultOf(ROUTES, three + "!", 56);

        terms("(also of a digit by which a number would be too great,");
        goesOnWith(ROUTES, "r4", "d" + DIGITS);
        goesOnWith(ROUTES, "r5", "d0");
        goesOnWith(ROUTES, "r6", "d");
        goesOnWith(ROUTES, "r49", "d");
        goesOnWith(ROUTES, "r9d19", ",;" + DIGITS);
        goesOnWith(ROUTES, "r9d20", ",;0");
        goesOnWith(ROUTES, "r9d21", ",;");
        goesOnWith(ROUTES, "r9d99", ",;");
        goesOnWith(ROUTES, "r9d9", ",;" + DIGITS);
        goesOnWith(ROUTES, "r9d199", ",;");
        goesOnWith(ROUTES, "r9d9,3*1", ",;" + DIGITS);
        goesOnWith(ROUTES, "r9d9,3*2", ",;0");
        goesOnWith(ROUTES, "r9d9,3*3", ",;");
        goesOnWith(ROUTES, "r9d9,3*19", ",;");
        faultOf(ROUTES, "r500d0", 3);
        faultOf(ROUTES, "r0d2000", 6);
        faultOf(ROUTES, "r0d0,0*200", 9);
        faultOf(ROUTES, "r99999999999d0", 2);
        faultOf(ROUTES, "r4294967297d0", 3);
        faultOf(ROUTES, "r0d4294967297", 5);
    }

    private static void faultsOfRoutes() {
        terms("of a machine that the job has already,");
        faultOf(ROUTES, "r0d0,0*1,0*1", 9);
        faultOf(ROUTES, "r0d0,3*1,3*1", 9);
        faultOf(ROUTES, "r0d0,0*1,1*1,0*1", 13);
        faultOf(ROUTES, "r0d0,0*1,1*1,2*1,2*1", 17);
        faultOf(ROUTES, "r0d0,0*1;r0d0,0*1", NONE);
        faultOf(ROUTES, "r0d0,0*1;r0d0,0*1,0*1", 18);

        terms("of the \",\" ahead of a fifth operation,");
        String four = "r0d0,0*1,1*1,2*1,3*1";
        faultOf(ROUTES, four, NONE);
        faultOf(ROUTES, four + ",", 20);
        faultOf(ROUTES, four + ",0*1", 20);
        faultOf(ROUTES, four + ";" + four + ",", 41);
        faultOf(ROUTES, "r0d0,0*1,1*1,2*1,", 17);

        terms("and of the \";\" ahead of a fifth job or order;");
        faultOf(ROUTES, "r0d0;r0d0;r0d0;r0d0", NONE);
        faultOf(ROUTES, "r0d0;r0d0;r0d0;r0d0;", 19);
        faultOf(ROUTES, "r0d0;r0d0;r0d0;r0d0;r0d0", 19);
        faultOf(ROUTES, "r0d0;r0d0;r0d0;", 15);
        faultOf(PLAN, "0:;1:;2:;3:", NONE);
        faultOf(PLAN, "0:;1:;2:;3:;", 11);
        faultOf(PLAN, "0:;1:;2:;3:;0:", 11);
        faultOf(PLAN, "0:0123;1:0123;2:0123;3:0123;", 27);
        faultOf(PLAN, "0:;1:;2:;", 9);
    }

    private static void faultsOfPlans() {
        terms("of what is there twice,");
        faultOf(PLAN, "0:11", 3);
        faultOf(PLAN, "0:121", 4);
        faultOf(PLAN, "0:1;0:2", 4);
        faultOf(PLAN, "0:1;1:1;0:", 8);

        terms("jobs of a plan that there are not, or that have no operation on the machine, are no fault);");
        faultOf(PLAN, "0:3210", NONE);
        BottleneckShop shop = Shops.of("r0d0,0*1;r0d0");
        Shops.put(shop, "0:01;3:3");
        due("two jobs, one with an operation", shop.fault(PLAN), NONE);
        due("but they are not taken", shop.loadPlan(), NOT_POSSIBLE);
    }

    private static void endsTooEarly() {
        terms("if there is none and the text ends too early (also if it is empty), it is the length of the text.");
        wholeAt(ROUTES, "r10d200,0*20,1*9;r0d0", 5, 6, 7, 11, 12, 16, 21);
        wholeAt(PLAN, "3:10;0:2;1:", 2, 3, 4, 7, 8, 11);
        faultOf(ROUTES, "", 0);
        faultOf(PLAN, "", 0);
        faultOf(ROUTES, "r50d200,0*20,1*20,2*20,3*20;r50d200,0*20,1*20,2*20,3*20;r50d200,0*20,1*20,2*20,3", 80);
    }

    /** The beginnings of these lengths are whole; each other one ends too early. */
    private static void wholeAt(int kind, String text, int... lengths) {
        boolean[] whole = new boolean[text.length() + 1];
        for (int each : lengths) {
            whole[each] = true;
        }
        for (int length = 0; length <= text.length(); length++) {
            faultOf(kind, text.substring(0, length), whole[length] ? NONE : length);
        }
    }

    private static void put() {
        of(19, "Appends characters to the pad.");
        BottleneckShop shop = padOf("r7d");
        shop.put(Shops.number("8,2*9"));
        due("both together are read", shop.loadRoutes(), 1);
        due("the due date", shop.ofJob(0, 1), 8);
        due("the duration", shop.about(0, 1), 9);

        of(19, "They are given as a number: its lowest 8 bits are the last character, the next 8 bits the one before, "
                + "and so on;");
        for (int size = 1; size <= 8; size++) {
            BottleneckShop parts = new BottleneckShop();
            String text = "r12d134,3*15,0*7;r5d67,2*1";
            for (int at = 0; at < text.length(); at += size) {
                parts.put(Shops.number(text.substring(at, Math.min(text.length(), at + size))));
            }
            due("in parts of " + size, parts.loadRoutes(), 2);
            due("in parts of " + size, Shops.state(parts), Shops.state(Shops.of(text)));
        }

        of(19, "8 bits that are 0 mean that there are no more characters, and everything above them has to be 0, too.");
        for (int behind = 1; behind <= 6; behind++) {
            long characters = Shops.number("aaaaaaaa".substring(0, behind));
            due(behind + " characters", new BottleneckShop().put(characters), behind);
            for (int bit = 8 * behind + 8; bit < 64; bit++) {
                due(behind + " characters and bit " + bit, new BottleneckShop().put(characters | 1L << bit), BAD_VALUE);
            }
        }

        of(19, "`characters`: 1 to 8 characters");
        for (int size = 1; size <= 8; size++) {
            due(size + " characters", new BottleneckShop().put(Shops.number("!~!~!~!~".substring(0, size))), size);
        }

        of(19, "Returns the length of the pad then;");
        due("from 0 to 8", new BottleneckShop().put(Shops.number("12345678")), 8);
        due("from 79 to 80", padOf(Shops.FULL_PAD.substring(1)).put('a'), 80);

        of(19, "BAD_VALUE if there is no character, a code is not 33 to 126, or a bit above 8 bits that are 0 is not 0;");
        due("no character", new BottleneckShop().put(0), BAD_VALUE);
        for (int bit = 8; bit < 64; bit++) {
            due("no character, but the bit " + bit, new BottleneckShop().put(1L << bit), BAD_VALUE);
        }
        for (long far : new long[] {-1, Long.MIN_VALUE, Long.MAX_VALUE, Long.MIN_VALUE + 'a', Integer.MIN_VALUE}) {
            due("the number " + far, new BottleneckShop().put(far), BAD_VALUE);
        }
        for (int size = 1; size <= 8; size++) {
            for (int code = 0; code < 256; code++) {
                codeInEachPlace(size, code);
            }
        }

        of(19, "TOO_MANY if the pad would be longer than 80.");
        for (int length = 72; length <= 80; length++) {
            for (int size = 1; size <= 8; size++) {
                BottleneckShop nearly = padOf(Shops.FULL_PAD.substring(0, length));
                boolean fits = length + size <= 80;
                long characters = Shops.number("12345678".substring(0, size));
                due(size + " to " + length, nearly.put(characters), fits ? length + size : TOO_MANY);
                due("the length then", nearly.count(8), fits ? length + size : length);
            }
        }
        for (long bad : new long[] {0, 32, 127, 'a' << 8, -1, Long.MIN_VALUE}) {
            due("no characters for a full pad: " + bad, padOf(Shops.FULL_PAD).put(bad), BAD_VALUE);
        }
    }

    /** The code among so many characters: just 33 to 126 may stand there, and 0 as the end, ahead of the first one. */
    private static void codeInEachPlace(int size, int code) {
        for (int place = 0; place < size; place++) {
            long others = Shops.number("aaaaaaaa".substring(0, size)) & ~(255L << 8 * place);
            boolean sign = code >= FIRST_SIGN && code <= LAST_SIGN;
            boolean end = code == 0 && place == size - 1 && size > 1;
            due("the code " + code + " at " + place + " of " + size,
                    new BottleneckShop().put(others | (long) code << 8 * place), sign ? size : end ? size - 1 : BAD_VALUE);
        }
    }

    private static void wipe() {
        of(20, "Empties the pad, and returns the length that it had.");
        BottleneckShop shop = new BottleneckShop();
        due("an empty pad", shop.wipe(), 0);
        shop.put('r');
        due("one character", shop.wipe(), 1);
        due("none is left", shop.count(8), 0);
        due("nothing to read", shop.fault(ROUTES), 0);
        due("twice", shop.wipe(), 0);
        Shops.put(shop, Shops.FULL_PAD);
        due("a full pad", shop.wipe(), 80);
        due("80 once more", Shops.put(shop, Shops.FULL_PAD), 80);
        shop.wipe();
        Shops.put(shop, "r1d2");
        due("nothing behind the new text", shop.fault(ROUTES), NONE);
        due("it is no change", shop.count(9), 0);
    }

    private static void fault() {
        of(21, "Returns the fault of the pad.");
        due("a fault", padOf("r60d0").fault(ROUTES), 2);
        due("the fault as a plan", padOf("r60d0").fault(PLAN), 0);
        BottleneckShop asked = padOf("r60d0");
        asked.fault(ROUTES);
        asked.fault(PLAN);
        due("the pad stays", asked.count(8), 5);
        due("and its fault, too", asked.fault(ROUTES), 2);

        of(21, "`kind`: 0 as routes, 1 as a plan");
        due("as routes", padOf("r0d0").fault(0), NONE);
        due("as a plan", padOf("r0d0").fault(1), 0);
        due("as routes", padOf("0:").fault(0), 0);
        due("as a plan", padOf("0:").fault(1), NONE);

        of(21, "Returns the fault, NONE if there is none;");
        due("none", padOf("r0d0").fault(ROUTES), NONE);
        due("none of a full pad", padOf(Shops.FULL_PAD).fault(ROUTES), NONE);
        due("the first character", padOf("x").fault(ROUTES), 0);
        due("an empty pad", new BottleneckShop().fault(ROUTES), 0);
        due("an empty pad", new BottleneckShop().fault(PLAN), 0);

        of(21, "BAD_VALUE if kind is neither 0 nor 1.");
        range("kind", 0, 1, BAD_VALUE, kind -> padOf("r0d0").fault(kind), kind -> kind == 0 ? NONE : 0);
        range("kind, an empty pad", 0, 1, BAD_VALUE, kind -> new BottleneckShop().fault(kind), kind -> 0);
    }

    private static void loadRoutes() {
        of(22, "Makes the jobs of the pad all jobs, in place of those that there were, with the plan that they get one "
                + "after the other, and empties the pad.");
        IntFunction<BottleneckShop> before = kind -> kind == 0 ? new BottleneckShop() : kind == 1 ? Shops.full(20)
                : kind == 2 ? Shops.impossible() : Shops.of("r9d9,2*9;r9d9,2*9;r9d9,2*9", "2:210");
        String[] texts = {"r0d0", "r50d200,3*20", "r1d2,3*4,2*5;r6d7;r8d9,0*10,2*11", "r0d0,2*1;r0d0,2*1;r0d0,2*1;r0d0,2*1"};
        String[] orders = {"0:;1:;2:;3:", "0:;1:;2:;3:0", "0:2;1:;2:02;3:0", "0:;1:;2:0123;3:"};
        String[] states = new String[texts.length];
        for (int text = 0; text < texts.length; text++) {
            for (int kind = 0; kind < 4; kind++) {
                BottleneckShop shop = before.apply(kind);
                Shops.put(shop, texts[text]);
                shop.loadRoutes();
                due("the orders of " + texts[text], Shops.orders(shop), orders[text]);
                states[text] = kind == 0 ? Shops.state(shop) : states[text];
                due("whatever was there before", Shops.state(shop), states[text]);
                due("possible", shop.count(7), 1);
                due("an empty pad", shop.count(8), 0);
            }
        }
        BottleneckShop again = new BottleneckShop();
        for (String text : new String[] {"r0d0,0*1;r0d0,1*1;r0d0,2*1;r0d0,3*1,0*1", "r9d9", "r0d0;r0d0;r0d0;r0d0"}) {
            Shops.put(again, text);
            again.loadRoutes();
            due("one text after another", Shops.state(again), Shops.state(Shops.of(text)));
        }
        BottleneckShop byCalls = new BottleneckShop();
        byCalls.job(1, 2);
        byCalls.operation(0, 3, 4);
        byCalls.operation(0, 2, 5);
        byCalls.job(6, 7);
        byCalls.job(8, 9);
        byCalls.operation(2, 0, 10);
        byCalls.operation(2, 2, 11);
        due("the same as by calls", Shops.state(byCalls), states[2]);

        of(22, "This is a change.");
        BottleneckShop changed = Shops.of("r0d0");
        due("one change", changed.count(9), 1);
        Shops.put(changed, "r0d0");
        changed.loadRoutes();
        due("also if they are the same", changed.count(9), 2);

        of(22, "Returns the number of jobs;");
        for (int jobs = 1; jobs <= 4; jobs++) {
            due(jobs + " jobs", padOf("r0d0;r0d0;r0d0;r0d0".substring(0, 5 * jobs - 1)).loadRoutes(), jobs);
        }

        of(22, "BAD_TEXT if the pad has a fault as routes.");
        due("an empty pad", new BottleneckShop().loadRoutes(), BAD_TEXT);
        for (String text : new String[] {"r", "r0d0,", "r0d0;", "r51d0", "r0d201", "r0d0,4*1", "r0d0,0*21", "r0d0,0*1,0*1", "0:",
            "r0d0;r0d0;r0d0;r0d0;", "r0d0,0*1,1*1,2*1,3*1,", "r00d0", "r0d0!", Shops.FULL_PAD.substring(0, 79) + "x"}) {
            BottleneckShop shop = Shops.crossing();
            Shops.put(shop, text);
            due("the text " + text, shop.loadRoutes(), BAD_TEXT);
            due("the pad stays", shop.count(8), text.length());
            due("the jobs stay", Shops.state(shop), Shops.state(Shops.crossing()));
        }
    }

    private static BottleneckShop loaded(BottleneckShop shop, String plan) {
        Shops.put(shop, plan);
        shop.loadPlan();
        return shop;
    }

    private static void loadPlan() {
        of(23, "Makes the orders of the pad those of their machines (other machines keep theirs), and empties the pad.");
        due("all machines", Shops.orders(loaded(Shops.full(1), "0:3210;1:1032;2:0213;3:2301")), "0:3210;1:1032;2:0213;3:2301");
        due("the last machine alone", Shops.orders(loaded(Shops.full(1), "3:2301")), "0:0123;1:0123;2:0123;3:2301");
        due("in another order", Shops.orders(loaded(Shops.full(1), "2:3210;0:1023")), "0:1023;1:0123;2:3210;3:0123");
        due("others keep what they have", Shops.orders(loaded(loaded(Shops.full(1), "0:1023"), "1:1023")),
                "0:1023;1:1023;2:0123;3:0123");
        due("the pad", loaded(Shops.crossing(), "0:10").count(8), 0);
        due("machines without jobs", Shops.orders(loaded(Shops.crossing(), "2:;3:")), "0:01;1:01;2:;3:");

        of(23, "This is a change.");
        due("another order", loaded(Shops.crossing(), "0:10").count(9), 2);
        due("the same order", loaded(Shops.crossing(), "0:01").count(9), 2);
        due("no jobs", loaded(new BottleneckShop(), "0:").count(9), 1);

        of(23, "Returns 1 if the plan is possible then, 0 if not;");
        BottleneckShop shop = Shops.crossing();
        Shops.put(shop, "0:10");
        due("a way round", shop.loadPlan(), 0);
        Shops.put(shop, "0:10;1:01");
        due("still", shop.loadPlan(), 0);
        Shops.put(shop, "1:10");
        due("none by the other machine", shop.loadPlan(), 1);
        Shops.put(shop, "1:01;0:10");
        due("both", shop.loadPlan(), 0);
        due("no jobs", padOf("0:;1:;2:;3:").loadPlan(), 1);

        of(23, "BAD_TEXT if the pad has a fault as a plan;");
        due("an empty pad", Shops.crossing().loadPlan(), BAD_TEXT);
        due("an empty pad, no jobs", new BottleneckShop().loadPlan(), BAD_TEXT);
        for (String text : new String[] {"0", "0:01;", "0:011", "0:01;0:01", "4:", "0:4", "r0d0", "0:01;1:10;2:;3:;", "0:0;x",
            "2:3;"}) {
            refused(text, BAD_TEXT);
        }

        of(23, "NOT_POSSIBLE if the order of a machine does not have just the jobs that have an operation on it.");
        for (String text : new String[] {"0:", "0:0", "0:1", "0:012", "0:02", "0:3210", "2:0", "3:3", "0:10;1:1", "0:10;1:10;2:2",
            "3:;2:;1:;0:", "2:;3:1"}) {
            refused(text, NOT_POSSIBLE);
        }
        due("a job that is not there", padOf("0:0").loadPlan(), NOT_POSSIBLE);
        due("one of four is missing", fullWith("3:012"), NOT_POSSIBLE);
        due("all four", fullWith("3:0123"), 1);
    }

    private static int fullWith(String plan) {
        BottleneckShop shop = Shops.full(1);
        Shops.put(shop, plan);
        return shop.loadPlan();
    }

    private static void refused(String text, int error) {
        BottleneckShop shop = Shops.crossing();
        Shops.put(shop, text);
        due("the text " + text, shop.loadPlan(), error);
        due("the pad stays", shop.count(8), text.length());
        due("the orders stay", Shops.orders(shop), "0:01;1:01;2:;3:");
        due("no change", shop.count(9), 1);
    }
}
