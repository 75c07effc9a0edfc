import java.util.List;

/**
 * The sentences of the document that name no edge and stand in no promise: its first lines, the
 * ordinary sentences of "Terms", and what it says of refusals. In the document's order, one test
 * for each sentence, named by the sentence.
 */
public final class SentenceTest {
    private static final Check check = new Check();

    private SentenceTest() {}

    public static void main(String[] args) {
        wholeStory();
        goodForAllCalls();
        objectsShareNothing();
        noneIsMinusOne();
        nothingArrivesByItself();
        portIsOneOfThree();
        otherEndIsOneOfAnotherSwitch();
        frameIsADatagramOrAProbe();
        guardsAreOfOneSwitch();
        rulesAreOfOneSwitch();
        ruleSendsOutAtItsPort();
        listsKeepTheirOrder();
        longestOrders();
        longestReports();
        controllerKnowsByReportsAlone();
        clearCutsTheWayAlone();
        leadPutsOneSwitchAlone();
        firstRefusalOfAttach();
        firstRefusalOfGuard();
        check.end();
    }

    /**
     * From switch 0 to switch 3 by 1 and 2, or, shorter, by 4; host 0 at 0:0 and host 1 at 3:0.
     * Nothing is known.
     */
    private static FlowFabric twoWays() {
        FlowFabric x = new FlowFabric(5, 4, 3);
        x.attach(0, 0);
        x.attach(3, 0);
        x.link(0, 1, 1, 1);
        x.link(1, 2, 2, 1);
        x.link(2, 2, 3, 1);
        x.link(0, 2, 4, 1);
        x.link(4, 2, 3, 2);
        return x;
    }

    private static void wholeStory() {
        check.part("a controller that learns where links and hosts are and lays the way of each"
                + " pair of hosts, switch by switch behind barriers, along a shortest path");
        FlowFabric x = twoWays();
        Nets.learn(x, 5);
        check.due("it learned a link", x.known(0, 2), 17);
        x.send(1, 0, 70);
        x.report(3);
        check.due("it learned a host", x.place(1), 12);
        Nets.obeyAll(x, 5);
        check.due("what was sent everywhere is taken", x.taken(0, 1), 70);
        x.send(0, 1, 71);
        x.report(0);
        int[] way = {0, 4, 3};
        for (int k = 0; k < way.length; k++) {
            check.due("a shortest path: " + k, x.course(0, 1, k), way[k]);
        }
        for (int k = way.length - 1; k >= 0; k--) {
            check.due("PUT", x.obey(way[k]), 0);
            for (int ahead = 0; ahead < k; ahead++) {
                check.due("nothing before the barrier", x.waiting(way[ahead], 4), 0);
            }
            check.due("BARRIER", x.obey(way[k]), 2);
            check.due("DONE", x.report(way[k]), 2);
        }
        check.due("GO", x.obey(0), 4);
        check.due("it goes the way", x.carry(0, 2) && x.carry(4, 2), true);
        check.due("taken", x.taken(1, 1), 71);
        x.send(0, 1, 72);
        check.due("the next one, too", x.carry(0, 2) && x.carry(4, 2), true);
        check.due("taken", x.taken(1, 1), 72);
        for (int node = 0; node < 5; node++) {
            check.due("nobody is asked", x.waiting(node, 4) + x.waiting(node, 5), 0);
        }
    }

    private static void goodForAllCalls() {
        check.part("An object is used for at most 512 calls after it has been made");
        FlowFabric x = new FlowFabric(2, 4, 4);
        x.attach(0, 0);
        x.attach(0, 1);
        x.guard(0, 0, 0, 1);
        for (int k = 0; k < 506; k++) {
            x.send(0, 1, 1000 + k);
        }
        check.due("the 510th call", x.hits(0, 0), 506);
        check.due("the 511th call", x.taken(1, 0), 506);
        check.due("the 512th call", x.taken(1, 1), 1505);
        FlowFabric y = Nets.star(2, 4, 9);
        y.send(0, 1, 5);
        Nets.settle(y, 2, 2);
        Nets.obeyAll(y, 2);
        for (int k = 0; k < 400; k++) {
            y.send(0, 1, k);
        }
        check.due("the uses of a rule", y.rule(0, 0, 1, 1), 401);
        FlowFabric z = new FlowFabric(2, 4, 9);
        for (int k = 0; k < 500; k++) {
            z.tick();
        }
        z.attach(0, 0);
        check.due("behind 500 ticks", z.attach(0, 1), 1);
    }

    private static void objectsShareNothing() {
        check.part("all that is promised is of one object");
        FlowFabric other = new FlowFabric(3, 4, 4);
        List<Integer> before = Look.now(other, 3, 3);
        FlowFabric x = Nets.laidRow(3, 4, 2);
        x.guard(0, 1, 0, 6);
        x.send(0, 1, 9);
        x.tick();
        check.due("the other one is as it was", Look.now(other, 3, 3).equals(before), true);
        check.due("the other one has no host", other.attach(0, 0), 0);
        check.due("nor a link", other.link(0, 2, 1, 1), true);
    }

    private static void noneIsMinusOne() {
        check.part("NONE = -1: Nothing there, or refused by the call itself");
        check.due("NONE", FlowFabric.NONE, -1);
        FlowFabric x = new FlowFabric(2, 4, 4);
        x.attach(0, 0);
        check.due("nothing there", x.place(0), FlowFabric.NONE);
        check.due("refused by the call itself", x.attach(0, 0), FlowFabric.NONE);
    }

    private static void nothingArrivesByItself() {
        check.part("Frames, orders and reports arrive only when the caller says so");
        FlowFabric x = Nets.row(3, 4, 9);
        x.attach(0, 0);
        x.attach(2, 0);
        x.probe();
        otherCalls(x);
        check.due("orders wait", x.waiting(0, 4), 1);
        check.due("no frame before obey", x.waiting(0, 2), 0);
        x.obey(0);
        otherCalls(x);
        check.due("frames wait", x.waiting(0, 2), 1);
        check.due("the orders of others wait", x.waiting(1, 4) + x.waiting(2, 4), 2);
        check.due("no report before carry", x.waiting(1, 5), 0);
        x.carry(0, 2);
        otherCalls(x);
        check.due("reports wait", x.waiting(1, 5), 1);
        check.due("nothing is known before report", x.known(0, 2), -1);
        x.report(1);
        check.due("now it is", x.known(0, 2), 5);
        x.send(0, 1, 7);
        otherCalls(x);
        check.due("a MISS waits", x.waiting(0, 5), 1);
        check.due("no place before report", x.place(0), -1);
        x.report(0);
        otherCalls(x);
        check.due("an OUT waits", x.waiting(2, 4), 2);
        x.obey(2);
        check.due("not taken before its turn", x.taken(1, 0), 0);
        x.obey(2);
        check.due("taken", x.taken(1, 0), 1);
    }

    /** Calls that move nothing of what waits. */
    private static void otherCalls(FlowFabric x) {
        x.tick();
        x.unguard(1, x.guard(1, 1, 0, 4));
        x.carry(1, 0);
        x.course(0, 1, -1);
    }

    private static void portIsOneOfThree() {
        check.part("A port is free, has a HOST, or is an END of a LINK");
        for (int port = 0; port < 4; port++) {
            int next = (port + 1) % 4;
            FlowFabric x = new FlowFabric(3, 4, 4);
            check.due("free: turn", x.turn(1, port, false), false);
            check.due("free: carry", x.carry(1, port), false);
            check.due("free, so it can have a host", x.attach(1, port), 0);
            check.due("a host: link", x.link(0, 0, 1, port), false);
            check.due("a host: attach", x.attach(1, port), -1);
            check.due("a host: turn", x.turn(1, port, false), false);
            check.due("free, so it can be an end", x.link(0, 0, 1, next), true);
            check.due("an end: link", x.link(2, 0, 1, next), false);
            check.due("an end: attach", x.attach(1, next), -1);
            check.due("an end: turn", x.turn(1, next, false), true);
            check.due("an end that is down: attach", x.attach(1, next), -1);
            check.due("an end that is down: link", x.link(2, 0, 1, next), false);
        }
    }

    private static void otherEndIsOneOfAnotherSwitch() {
        check.part("an END of a LINK, which joins it to a port of another switch (its OTHER end)");
        for (int port = 0; port < 4; port++) {
            for (int far = 0; far < 4; far++) {
                FlowFabric x = new FlowFabric(4, 4, 4);
                x.link(3, far, 1, port);
                x.probe();
                x.obey(3);
                check.due("on the wire", x.waiting(3, far), 1);
                check.due("carry", x.carry(3, far), true);
                check.due("it is at switch 1", x.waiting(1, 5), 1);
                check.due("SEEN", x.report(1), 1);
                check.due("at that port", x.known(3, far), 4 + port);
                check.due("from that port", x.known(1, port), 12 + far);
            }
        }
    }

    private static void frameIsADatagramOrAProbe() {
        check.part("A FRAME is a DATAGRAM (from a host, to another one, with a number) or a PROBE"
                + " (with the switch and the port where it was sent out)");
        FlowFabric x = Nets.row(3, 4, 4);
        x.attach(0, 0);
        x.attach(0, 3);
        x.attach(2, 0);
        x.guard(0, 0, 0, 2);
        x.guard(1, 0, 0, 2);
        x.guard(2, 0, 0, 0);
        x.send(1, 2, -41);
        x.probe();
        x.obey(0);
        x.send(0, 2, 42);
        check.due("three frames", x.waiting(0, 2), 3);
        check.due("a datagram", x.carry(0, 2) && x.carry(1, 2), true);
        check.due("its number", x.taken(2, 1), -41);
        check.due("the host that it is from", x.taken(2, 2), 1);
        check.due("a probe", x.carry(0, 2), true);
        check.due("which goes no farther", x.carry(1, 2), false);
        check.due("SEEN", x.report(1), 1);
        check.due("where it was sent out", x.known(1, 1), 2);
        check.due("a datagram", x.carry(0, 2) && x.carry(1, 2), true);
        check.due("its number", x.taken(2, 1), 42);
        check.due("the host that it is from", x.taken(2, 2), 0);
    }

    private static void guardsAreOfOneSwitch() {
        check.part("GUARDS are a switch's first table, each with a priority, a MATCH, a VERDICT"
                + " and HITS");
        FlowFabric x = new FlowFabric(2, 4, 4);
        x.attach(0, 0);
        x.attach(1, 0);
        x.guard(0, 1, 0, 4);
        x.guard(1, 9, 0, 6);
        x.guard(1, 2, 0, 4);
        x.send(0, 1, 5);
        check.due("switch 0", x.hits(0, 0), 1);
        check.due("not switch 1", x.hits(1, 0) + x.hits(1, 1), 0);
        check.due("the verdict of switch 0", x.waiting(0, 5), 0);
        x.send(1, 0, 6);
        x.send(1, 0, 7);
        check.due("switch 1", x.hits(1, 0), 2);
        check.due("not switch 0", x.hits(0, 0), 1);
        check.due("the verdict of switch 1", x.waiting(1, 5), 2);
        check.due("out of switch 1 alone", x.unguard(1, 0), 2);
        check.due("the one of switch 0 is there", x.hits(0, 0), 1);
    }

    private static void rulesAreOfOneSwitch() {
        check.part("RULES are its second table, each with a pair (from, to), a port, USES, and when"
                + " it was MADE and used LAST");
        FlowFabric x = Nets.laidRow(3, 4, 9);
        for (int node = 0; node < 3; node++) {
            check.due("a rule of its own", x.rule(node, 0, 1, 2), 0);
        }
        check.due("the GO used the first", x.rule(0, 0, 1, 1), 1);
        check.due("not the second", x.rule(1, 0, 1, 1), 0);
        x.tick();
        x.carry(0, 2);
        check.due("the second is used", x.rule(1, 0, 1, 1), 1);
        check.due("not the third", x.rule(2, 0, 1, 1), 0);
        check.due("nor the first again", x.rule(0, 0, 1, 1), 1);
        for (int tick = 2; tick < 9; tick++) {
            check.due("tick " + tick, x.tick(), 0);
        }
        check.due("the first and the third, not the second", x.tick(), 2);
        check.due("which was used last a tick later", x.rule(1, 0, 1, 1), 1);
        check.due("now it, too", x.tick(), 1);
    }

    private static void ruleSendsOutAtItsPort() {
        check.part("that has one use more, was used last NOW, and the datagram is sent out at its"
                + " port");
        for (int to = 1; to < 4; to++) {
            FlowFabric x = Nets.star(4, 4, 9);
            x.send(0, to, 5);
            Nets.settle(x, 2, 2);
            Nets.obeyAll(x, 2);
            x.send(0, to, 50 + to);
            check.due("its port", x.rule(0, 0, to, 0), to);
            for (int host = 0; host < 4; host++) {
                check.due("taken by " + host, x.taken(host, 1), host == to ? 50 + to : 0);
            }
        }
    }

    private static void listsKeepTheirOrder() {
        check.part("Each switch has a list of ORDERS, from the controller, and one of REPORTS, to"
                + " it; what is added comes to the end");
        FlowFabric x = Nets.row(2, 4, 4);
        for (int port = 0; port < 4; port++) {
            x.attach(port == 2 ? 1 : 0, port);
        }
        int[][] sends = {{3, 2}, {0, 2}, {1, 2}, {3, 2}, {0, 2}};
        for (int k = 0; k < sends.length; k++) {
            x.send(sends[k][0], sends[k][1], 10 + k);
        }
        x.turn(1, 1, false);
        check.due("the reports of switch 0", x.waiting(0, 5), 6);
        check.due("the reports of switch 1", x.waiting(1, 5), 1);
        check.due("MISS", x.report(0), 0);
        check.due("the first one", x.place(3), 3);
        check.due("no other one yet", x.place(0), -1);
        check.due("MISS", x.report(0), 0);
        check.due("the second one", x.place(0), 0);
        x.probe();
        int[] reports = {0, 0, 0, 5, -1};
        for (int code : reports) {
            check.due("reports in their order", x.report(0), code);
        }
        check.due("the list of switch 1 is another one", x.report(1), 5);
        int[] orders = {3, 3, 5, 3, 3, 3, -1};
        int[] taken = {10, 11, 11, 12, 13, 14, 14};
        for (int k = 0; k < orders.length; k++) {
            check.due("orders in their order", x.obey(1), orders[k]);
            check.due("the OUTs in their order", x.taken(2, 1), taken[k]);
        }
        check.due("the list of switch 0 is another one", x.waiting(0, 4), 6);
    }

    /**
     * A link 0:2 to 1:1 that no probe has crossed; one waits on the wire of 1:1. Hosts 0 and 1, at
     * switch 0, are taken to be at 1:1; hosts 2, 3 and 4 are at switch 1. There are no orders.
     */
    private static FlowFabric crowd(int idle) {
        FlowFabric x = Nets.row(2, 8, idle);
        int[][] ports = {{0, 0}, {0, 1}, {1, 0}, {1, 2}, {1, 3}};
        for (int[] port : ports) {
            x.attach(port[0], port[1]);
        }
        x.probe();
        x.obey(1);
        x.guard(0, 0, 0, 2);
        for (int host = 0; host < 2; host++) {
            x.send(host, 4, 5);
            x.carry(0, 2);
            x.report(1);
        }
        Nets.obeyAll(x, 2);
        return x;
    }

    /** Courses of switch 1 alone, from each of its three hosts to each of the other two. */
    private static void sixCourses(FlowFabric x) {
        for (int from = 2; from < 5; from++) {
            for (int to = 0; to < 2; to++) {
                x.send(from, to, 6);
                x.report(1);
                check.due("laying", x.course(from, to, -1), 2);
            }
        }
    }

    private static void longestOrders() {
        check.part("what is added comes to the end (forty orders, no run has more)");
        FlowFabric x = crowd(9);
        for (int k = 0; k < 16; k++) {
            x.probe();
        }
        sixCourses(x);
        x.carry(1, 1);
        check.due("SEEN", x.report(0), 1);
        check.due("orders", x.waiting(1, 4), 40);
        for (int k = 0; k < 16; k++) {
            check.due("PROBES", x.obey(1), 5);
        }
        for (int k = 0; k < 6; k++) {
            check.due("PUT", x.obey(1), 0);
            check.due("BARRIER", x.obey(1), 2);
        }
        for (int k = 0; k < 6; k++) {
            check.due("CUT", x.obey(1), 1);
            check.due("BARRIER", x.obey(1), 2);
        }
        check.due("no more", x.obey(1), -1);
    }

    private static void longestReports() {
        check.part("what is added comes to the end (38 reports, no run has more)");
        FlowFabric x = crowd(1);
        sixCourses(x);
        x.carry(1, 1);
        x.send(2, 3, 7);
        for (int k = 0; k < 19; k++) {
            check.due("down", x.turn(1, 1, false), true);
            check.due("up", x.turn(1, 1, true), k < 18);
        }
        for (int k = 0; k < 12; k++) {
            x.obey(1);
        }
        check.due("the rules are gone", x.tick(), 6);
        check.due("SEEN", x.report(0), 1);
        for (int k = 0; k < 12; k++) {
            x.obey(1);
        }
        int[][] rows = {{1, 0}, {19, 5}, {6, 2}, {6, 4}, {6, 2}};
        check.due("reports", x.waiting(1, 5), 38);
        for (int[] row : rows) {
            for (int k = 0; k < row[0]; k++) {
                check.due("in their order", x.report(1), row[1]);
            }
        }
        check.due("no more", x.report(1), -1);
        check.due("all are gone", x.course(2, 0, -1) + x.course(4, 1, -1), -2);
    }

    private static void controllerKnowsByReportsAlone() {
        check.part("THE CONTROLLER knows of some ends of links their other ends, of some hosts"
                + " their PLACE");
        FlowFabric x = Nets.row(2, 4, 4);
        x.attach(0, 0);
        x.attach(1, 0);
        x.guard(0, 0, 0, 2);
        x.guard(1, 0, 0, 0);
        x.send(0, 1, 5);
        x.carry(0, 2);
        check.due("what it has no report of goes its way", x.taken(1, 1), 5);
        x.turn(0, 2, false);
        x.turn(0, 2, true);
        check.due("DOWN", x.report(0), 5);
        check.due("DOWN", x.report(1), 5);
        check.due("no end", x.known(0, 2), -1);
        check.due("no other end", x.known(1, 1), -1);
        check.due("no place", x.place(0), -1);
        check.due("nor of the other host", x.place(1), -1);
        x.unguard(0, 0);
        x.send(0, 1, 6);
        x.report(0);
        check.due("the place of the one", x.place(0), 0);
        check.due("not of the other", x.place(1), -1);
    }

    /** Two ways, all known, and a course from host 0 to host 1 by the shorter one. */
    private static FlowFabric begun() {
        FlowFabric x = twoWays();
        Nets.learn(x, 5);
        x.send(1, 0, 70);
        x.report(3);
        Nets.obeyAll(x, 5);
        x.send(0, 1, 71);
        x.report(0);
        return x;
    }

    private static void ordersAre(FlowFabric x, int... orders) {
        for (int node = 0; node < orders.length; node++) {
            check.due("orders of " + node, x.waiting(node, 4), orders[node]);
        }
    }

    private static void clearCutsTheWayAlone() {
        check.part("each switch of its way, in the order of the way, gets a CUT (of the pair) and"
                + " then a BARRIER (of the wave)");
        FlowFabric x = begun();
        Nets.settle(x, 5, 3);
        Nets.obeyAll(x, 5);
        check.due("laid", x.course(0, 1, -1), 3);
        x.guard(0, 0, 0, 6);
        x.send(0, 1, 72);
        x.report(0);
        ordersAre(x, 2, 0, 0, 2, 2);
        int[] way = {0, 4, 3};
        for (int node : way) {
            check.due("its rule", x.rule(node, 0, 1, 2), 0);
            check.due("CUT", x.obey(node), 1);
            check.due("its rule is gone", x.rule(node, 0, 1, 2), -1);
            check.due("no DONE yet", x.waiting(node, 5), 0);
            check.due("BARRIER", x.obey(node), 2);
            check.due("DONE", x.waiting(node, 5), 1);
        }
    }

    private static void leadPutsOneSwitchAlone() {
        check.part("the switch gets a PUT (the pair, the port that the way has there) and then a"
                + " BARRIER (of the wave)");
        FlowFabric x = begun();
        int[] way = {3, 4, 0};
        int[] ports = {0, 2, 2};
        int[][] orders = {{0, 0, 0, 2, 0}, {0, 0, 0, 0, 2}, {2, 0, 0, 0, 0}};
        for (int k = 0; k < way.length; k++) {
            ordersAre(x, orders[k]);
            check.due("PUT", x.obey(way[k]), 0);
            check.due("its port", x.rule(way[k], 0, 1, 0), ports[k]);
            check.due("not of the pair turned round", x.rule(way[k], 1, 0, 0), -1);
            check.due("no DONE yet", x.waiting(way[k], 5), 0);
            check.due("BARRIER", x.obey(way[k]), 2);
            check.due("DONE", x.report(way[k]), 2);
        }
        check.due("none on the longer way", x.rule(1, 0, 1, 0) + x.rule(2, 0, 1, 0), -2);
    }

    private static void firstRefusalOfAttach() {
        check.part("Where several refusals are named with one call, the first that holds, in the"
                + " order named, is answered (attach)");
        FlowFabric x = new FlowFabric(3, 4, 4);
        x.link(0, 3, 1, 3);
        for (int host = 0; host < 6; host++) {
            x.attach(host / 3, host % 3);
        }
        int[][] wrong = {{3, 0}, {-1, 0}, {2, 4}, {2, -1}, {0, 3}, {1, 3}, {0, 0}, {1, 2}};
        for (int[] row : wrong) {
            check.due("attach(" + row[0] + ", " + row[1] + ")", x.attach(row[0], row[1]), -1);
        }
        check.due("the second alone", x.attach(2, 0), -2);
    }

    private static void firstRefusalOfGuard() {
        check.part("Where several refusals are named with one call, the first that holds, in the"
                + " order named, is answered (guard)");
        FlowFabric x = new FlowFabric(2, 4, 4);
        for (int k = 0; k < 4; k++) {
            x.guard(1, 0, 0, 4);
        }
        int[][] wrong = {
            {2, 0, 0, 4}, {1, 10, 0, 4}, {1, -1, 0, 4}, {1, 0, 0, 7}, {1, 0, 0, -1}, {1, 0, 512, 4},
            {1, 0, -1, 4}, {1, 0, 5, 4}, {1, 0, 56, 4}, {1, 0, 448, 4}, {2, 10, 512, 7},
        };
        for (int[] row : wrong) {
            check.due("guard(" + row[0] + ", " + row[1] + ", " + row[2] + ", " + row[3] + ")",
                    x.guard(row[0], row[1], row[2], row[3]), -1);
        }
        check.due("the second alone", x.guard(1, 0, 0, 4), -2);
        check.due("no refusal", x.guard(0, 0, 0, 4), 0);
    }
}
