import java.util.function.Supplier;
import java.util.function.ToIntFunction;

/**
 * "A call that is refused changes nothing": each call with each of its reasons to be refused, made
 * of one of two fabrics that were built alike. Both answer alike afterwards, now and later.
 */
public final class RefusalTest {
    private static final int LEAST = Integer.MIN_VALUE;
    private static final int MOST = Integer.MAX_VALUE;
    private static final int[] NO_SWITCH = {-1, 3, LEAST, MOST};
    private static final int[] NO_PORT = {-1, 4, LEAST, MOST};

    private static final Check check = new Check();

    private RefusalTest() {}

    public static void main(String[] args) {
        attachIsRefused();
        attachIsRefusedWithSixHosts();
        linkIsRefused();
        turnIsRefused();
        turnIsRefusedWithTwentyReports();
        guardIsRefused();
        guardIsRefusedWithFour();
        unguardIsRefused();
        sendIsRefused();
        carryIsRefused();
        obeyIsRefused();
        reportIsRefused();
        probeIsRefused();
        asksAreRefused();
        asksChangeNothing();
        check.end();
    }

    private static int number(boolean answer) {
        return answer ? 1 : 0;
    }

    /**
     * Three switches in a row and three hosts, with something of everything: guards that were hit,
     * a course that is laid, one that is being laid, rules, a NOROOM, frames, orders and reports,
     * a link that is down (2:2 to 0:1), and some ticks. Free are 1:0, 1:3 and 2:3.
     */
    private static FlowFabric busy() {
        FlowFabric x = Nets.laidRow(3, 1, 5);
        x.link(2, 2, 0, 1);
        x.turn(2, 2, false);
        x.report(2);
        x.guard(0, 3, 4, 5);
        x.guard(0, 3, 2, 4);
        x.guard(1, 9, 2, 5);
        x.tick();
        x.send(0, 1, 40);
        x.carry(0, 2);
        x.send(1, 0, 41);
        x.report(2);
        x.obey(0);
        x.send(2, 1, 42);
        x.probe();
        x.tick();
        x.send(0, 1, 43);
        return x;
    }

    private static void refused(String name, int want, ToIntFunction<FlowFabric> call) {
        refused(name, RefusalTest::busy, 3, want, call);
    }

    private static void refused(String name, Supplier<FlowFabric> net, int hosts, int want,
            ToIntFunction<FlowFabric> call) {
        FlowFabric now = net.get();
        check.due(name, call.applyAsInt(now), want);
        check.due(name + " changes nothing",
                Look.now(now, 3, hosts).equals(Look.now(net.get(), 3, hosts)), true);
        FlowFabric later = net.get();
        call.applyAsInt(later);
        call.applyAsInt(later);
        check.due(name + " changes nothing of what follows",
                Look.later(later, 3, hosts).equals(Look.later(net.get(), 3, hosts)), true);
    }

    private static void attachIsRefused() {
        check.part("2: attach refused");
        for (int node : NO_SWITCH) {
            refused("no switch " + node, -1, x -> x.attach(node, 0));
        }
        for (int port : NO_PORT) {
            refused("no port " + port, -1, x -> x.attach(1, port));
        }
        refused("a host's port", -1, x -> x.attach(0, 0));
        refused("an end", -1, x -> x.attach(1, 1));
        refused("an end that is down", -1, x -> x.attach(0, 1));
    }

    private static FlowFabric sixHosts() {
        FlowFabric x = Nets.row(3, 2, 4);
        int[][] ports = {{0, 0}, {0, 1}, {0, 3}, {1, 0}, {2, 0}, {2, 3}};
        for (int[] port : ports) {
            x.attach(port[0], port[1]);
        }
        x.send(0, 1, 5);
        x.send(4, 5, 6);
        x.report(0);
        return x;
    }

    private static void attachIsRefusedWithSixHosts() {
        check.part("2: attach refused, six hosts");
        refused("a free port", RefusalTest::sixHosts, 6, -2, x -> x.attach(1, 3));
        refused("another one", RefusalTest::sixHosts, 6, -2, x -> x.attach(2, 2));
        refused("no switch, too", RefusalTest::sixHosts, 6, -1, x -> x.attach(3, 0));
        refused("no port, too", RefusalTest::sixHosts, 6, -1, x -> x.attach(1, 4));
        refused("a host's port, too", RefusalTest::sixHosts, 6, -1, x -> x.attach(2, 3));
        refused("an end, too", RefusalTest::sixHosts, 6, -1, x -> x.attach(0, 2));
    }

    private static void linkIsRefused() {
        check.part("3: link refused");
        for (int node : NO_SWITCH) {
            refused("first: no switch " + node, 0, x -> number(x.link(node, 0, 1, 0)));
            refused("second: no switch " + node, 0, x -> number(x.link(1, 0, node, 0)));
        }
        for (int port : NO_PORT) {
            refused("first: no port " + port, 0, x -> number(x.link(2, port, 1, 0)));
            refused("second: no port " + port, 0, x -> number(x.link(1, 0, 2, port)));
        }
        refused("first: a host's port", 0, x -> number(x.link(0, 0, 1, 0)));
        refused("second: a host's port", 0, x -> number(x.link(1, 0, 0, 0)));
        refused("first: an end", 0, x -> number(x.link(0, 2, 1, 0)));
        refused("second: an end", 0, x -> number(x.link(1, 0, 0, 2)));
        refused("first: an end that is down", 0, x -> number(x.link(0, 1, 1, 0)));
        refused("one switch, two free ports", 0, x -> number(x.link(1, 0, 1, 3)));
        refused("one switch, one port", 0, x -> number(x.link(1, 0, 1, 0)));
    }

    private static void turnIsRefused() {
        check.part("4: turn refused");
        for (int up = 0; up < 2; up++) {
            boolean wanted = up == 1;
            for (int node : NO_SWITCH) {
                refused("no switch " + node, 0, x -> number(x.turn(node, 2, wanted)));
            }
            for (int port : NO_PORT) {
                refused("no port " + port, 0, x -> number(x.turn(1, port, wanted)));
            }
            refused("a host's port", 0, x -> number(x.turn(0, 0, wanted)));
            refused("a free port", 0, x -> number(x.turn(1, 0, wanted)));
        }
        refused("up already", 0, x -> number(x.turn(0, 2, true)));
        refused("up already, from there", 0, x -> number(x.turn(1, 1, true)));
        refused("down already", 0, x -> number(x.turn(2, 2, false)));
        refused("down already, from there", 0, x -> number(x.turn(0, 1, false)));
    }

    /** A row of three; switch 1 has twenty reports, its link to switch 0 has frames and is up. */
    private static FlowFabric twenty() {
        FlowFabric x = Nets.row(3, 2, 4);
        x.attach(0, 0);
        x.attach(1, 0);
        for (int k = 0; k < 20; k++) {
            x.turn(1, 2, false);
            x.turn(1, 2, true);
            x.report(2);
        }
        x.guard(0, 0, 1, 2);
        x.guard(1, 0, 1, 1);
        x.send(0, 1, 5);
        x.send(1, 0, 6);
        return x;
    }

    private static FlowFabric twentyAndDown() {
        FlowFabric x = Nets.row(3, 2, 4);
        x.attach(0, 0);
        x.attach(1, 0);
        x.turn(0, 2, false);
        for (int k = 0; k < 19; k++) {
            x.turn(1, 2, false);
            x.turn(1, 2, true);
            x.report(2);
        }
        x.guard(0, 0, 1, 2);
        x.send(0, 1, 5);
        return x;
    }

    private static void turnIsRefusedWithTwentyReports() {
        check.part("4: turn refused, twenty reports");
        refused("down, here", RefusalTest::twenty, 2, 0, x -> number(x.turn(1, 1, false)));
        refused("down, there", RefusalTest::twenty, 2, 0, x -> number(x.turn(0, 2, false)));
        refused("up, here", RefusalTest::twentyAndDown, 2, 0, x -> number(x.turn(1, 1, true)));
        refused("up, there", RefusalTest::twentyAndDown, 2, 0, x -> number(x.turn(0, 2, true)));
    }

    private static void guardIsRefused() {
        check.part("5: guard refused");
        for (int node : NO_SWITCH) {
            refused("no switch " + node, -1, x -> x.guard(node, 9, 0, 4));
        }
        int[] priorities = {-1, 10, LEAST, MOST};
        for (int priority : priorities) {
            refused("priority " + priority, -1, x -> x.guard(0, priority, 0, 4));
        }
        int[] verdicts = {-1, 7, LEAST, MOST};
        for (int verdict : verdicts) {
            refused("verdict " + verdict, -1, x -> x.guard(0, 9, 0, verdict));
        }
        int[] matches = {-1, 512, 511, 5, 56, 448, LEAST, MOST};
        for (int match : matches) {
            refused("match " + match, -1, x -> x.guard(0, 9, match, 4));
        }
    }

    private static FlowFabric fourGuards() {
        FlowFabric x = busy();
        x.guard(0, 3, 0, 5);
        x.guard(0, 0, 0, 6);
        return x;
    }

    private static void guardIsRefusedWithFour() {
        check.part("5: guard refused, four guards");
        refused("a fifth", RefusalTest::fourGuards, 3, -2, x -> x.guard(0, 9, 0, 4));
        refused("no switch, too", RefusalTest::fourGuards, 3, -1, x -> x.guard(3, 9, 0, 4));
        refused("priority, too", RefusalTest::fourGuards, 3, -1, x -> x.guard(0, 10, 0, 4));
        refused("verdict, too", RefusalTest::fourGuards, 3, -1, x -> x.guard(0, 9, 0, 7));
        refused("match, too", RefusalTest::fourGuards, 3, -1, x -> x.guard(0, 9, 512, 4));
    }

    private static void unguardIsRefused() {
        check.part("6: unguard refused");
        for (int node : NO_SWITCH) {
            refused("no switch " + node, -1, x -> x.unguard(node, 0));
        }
        int[] numbers = {-1, 2, 3, LEAST, MOST};
        for (int k : numbers) {
            refused("no guard " + k, -1, x -> x.unguard(0, k));
        }
        refused("no guard at all", -1, x -> x.unguard(2, 0));
    }

    private static void sendIsRefused() {
        check.part("7: send refused");
        int[] hosts = {-1, 3, 5, 6, LEAST, MOST};
        for (int host : hosts) {
            refused("from " + host, 0, x -> number(x.send(host, 0, 9)));
            refused("to " + host, 0, x -> number(x.send(0, host, 9)));
        }
        for (int host = 0; host < 3; host++) {
            int same = host;
            refused("from and to " + host, 0, x -> number(x.send(same, same, 9)));
        }
    }

    private static void carryIsRefused() {
        check.part("8: carry refused");
        for (int node : NO_SWITCH) {
            refused("no switch " + node, 0, x -> number(x.carry(node, 2)));
        }
        for (int port : NO_PORT) {
            refused("no port " + port, 0, x -> number(x.carry(1, port)));
        }
        refused("a host's port", 0, x -> number(x.carry(0, 0)));
        refused("a free port", 0, x -> number(x.carry(1, 0)));
        refused("an empty wire", 0, x -> number(x.carry(1, 1)));
        refused("a link that is down", 0, x -> number(x.carry(2, 2)));
    }

    private static FlowFabric idle() {
        return Nets.laidRow(3, 1, 5);
    }

    private static void obeyIsRefused() {
        check.part("9: obey refused");
        for (int node : NO_SWITCH) {
            refused("no switch " + node, -1, x -> x.obey(node));
        }
        for (int node = 0; node < 3; node++) {
            int empty = node;
            refused("no order at " + node, RefusalTest::idle, 3, -1, x -> x.obey(empty));
        }
    }

    private static void reportIsRefused() {
        check.part("10: report refused");
        for (int node : NO_SWITCH) {
            refused("no switch " + node, -1, x -> x.report(node));
        }
        for (int node = 0; node < 3; node++) {
            int empty = node;
            refused("no report of " + node, RefusalTest::idle, 3, -1, x -> x.report(empty));
        }
    }

    /** All but one switch have one order less than the sixteen that shut. */
    private static FlowFabric sixteenAt(int full) {
        FlowFabric x = Nets.row(3, 2, 4);
        x.attach(0, 0);
        x.attach(2, 0);
        for (int k = 0; k < 16; k++) {
            x.probe();
        }
        for (int node = 0; node < 3; node++) {
            if (node != full) {
                x.obey(node);
            }
        }
        return x;
    }

    private static void probeIsRefused() {
        check.part("11: probe refused");
        for (int node = 0; node < 3; node++) {
            int full = node;
            refused("sixteen at " + node, () -> sixteenAt(full), 2, 0, x -> number(x.probe()));
        }
    }

    private static void asksAreRefused() {
        check.part("13 to 19: asks refused");
        for (int node : NO_SWITCH) {
            refused("waiting: no switch " + node, -1, x -> x.waiting(node, 4));
            refused("rule: no switch " + node, -1, x -> x.rule(node, 0, 1, 0));
            refused("hits: no switch " + node, -1, x -> x.hits(node, 0));
            refused("known: no switch " + node, -1, x -> x.known(node, 0));
        }
        for (int port : NO_PORT) {
            refused("known: no port " + port, -1, x -> x.known(1, port));
        }
        int[] whats = {-1, 6, LEAST, MOST};
        for (int what : whats) {
            refused("waiting: no what " + what, -1, x -> x.waiting(0, what));
            refused("rule: no what " + what, -1, x -> x.rule(0, 0, 1, what));
            refused("hits: no guard " + what, -1, x -> x.hits(0, what));
            refused("taken: no what " + what, -1, x -> x.taken(1, what));
            refused("taken: no host " + what, -1, x -> x.taken(what, 0));
            refused("place: no host " + what, -1, x -> x.place(what));
            refused("course: no host " + what, -1, x -> x.course(what, 1, -1));
            refused("course: to no host " + what, -1, x -> x.course(0, what, -1));
            refused("rule: no host " + what, -1, x -> x.rule(0, what, 1, 0));
        }
        int[] beyond = {-3, 3, LEAST, MOST};
        for (int k : beyond) {
            refused("course: no k " + k, -1, x -> x.course(0, 1, k));
        }
        refused("course: not of this pair", -1, x -> x.course(2, 0, -1));
        refused("rule: not of this pair", -1, x -> x.rule(0, 2, 0, 0));
    }

    private static void asksChangeNothing() {
        check.part("13 to 19: asks change nothing");
        FlowFabric asked = busy();
        check.due("asked twice", Look.now(asked, 3, 3).equals(Look.now(asked, 3, 3)), true);
        FlowFabric later = idle();
        Look.now(later, 3, 3);
        check.due("asked before", Look.later(later, 3, 3).equals(Look.later(idle(), 3, 3)), true);
    }
}
