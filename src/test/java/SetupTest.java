/** Promises 1 to 4: a new object, attach, link, turn. */
public final class SetupTest {
    private static final Check check = new Check();

    private SetupTest() {}

    public static void main(String[] args) {
        switchesAreKeptWithin();
        roomIsKeptWithin();
        idleIsKeptWithin();
        nothingIsThereAtFirst();
        hostsAreNumbered();
        attachIsRefused();
        linksJoinPorts();
        linkIsRefused();
        turnLosesFramesAndReports();
        turnIsRefused();
        turnIsRefusedForTheFarSwitch();
        check.end();
    }

    private static void switchesAreKeptWithin() {
        check.part("1 switches");
        int[][] cases = {
            {Integer.MIN_VALUE, 2}, {-1, 2}, {1, 2}, {2, 2}, {3, 3}, {4, 4}, {5, 5}, {6, 5},
            {Integer.MAX_VALUE, 5},
        };
        for (int[] row : cases) {
            FlowFabric x = new FlowFabric(row[0], 4, 4);
            check.due(row[0] + ": the last switch", x.waiting(row[1] - 1, 0), 0);
            check.due(row[0] + ": the one behind it", x.waiting(row[1], 0), -1);
        }
    }

    /** How many of six pairs at one switch get a rule. */
    private static int rulesThatFit(int room) {
        FlowFabric x = Nets.star(4, room, 9);
        int[][] pairs = {{0, 1}, {1, 0}, {2, 3}, {3, 2}, {0, 2}, {2, 0}};
        int fit = 0;
        for (int[] pair : pairs) {
            x.send(pair[0], pair[1], 5);
            Nets.reportAll(x, 2);
            Nets.obeyAll(x, 2);
            fit += x.rule(0, pair[0], pair[1], 0) == FlowFabric.NONE ? 0 : 1;
        }
        return fit;
    }

    private static void roomIsKeptWithin() {
        check.part("1 room");
        int[][] cases = {
            {Integer.MIN_VALUE, 1}, {0, 1}, {1, 1}, {2, 2}, {3, 3}, {5, 5}, {6, 6}, {8, 6}, {9, 6},
            {Integer.MAX_VALUE, 6},
        };
        for (int[] row : cases) {
            check.due(row[0] + ": rules that fit", rulesThatFit(row[0]), row[1]);
        }
    }

    private static void idleIsKeptWithin() {
        check.part("1 idle");
        int[][] cases = {
            {Integer.MIN_VALUE, 1}, {0, 1}, {1, 1}, {2, 2}, {8, 8}, {9, 9}, {10, 9},
            {Integer.MAX_VALUE, 9},
        };
        for (int[] row : cases) {
            FlowFabric x = Nets.star(2, 4, row[0]);
            x.send(0, 1, 5);
            x.report(0);
            x.obey(0);
            for (int tick = 1; tick < row[1]; tick++) {
                check.due(row[0] + ": tick " + tick, x.tick(), 0);
            }
            check.due(row[0] + ": tick " + row[1], x.tick(), 1);
        }
    }

    private static void nothingIsThereAtFirst() {
        check.part("1 nothing else");
        FlowFabric x = new FlowFabric(5, 8, 9);
        for (int node = 0; node < 5; node++) {
            for (int what = 0; what < 6; what++) {
                check.due("waiting(" + node + ", " + what + ")", x.waiting(node, what), 0);
            }
            for (int port = 0; port < 4; port++) {
                check.due("known(" + node + ", " + port + ")", x.known(node, port), -1);
            }
            check.due("hits(" + node + ", 0)", x.hits(node, 0), -1);
            check.due("rule(" + node + ", 0, 1, 0)", x.rule(node, 0, 1, 0), -1);
        }
        check.due("place(0)", x.place(0), -1);
        check.due("course(0, 1, -1)", x.course(0, 1, -1), -1);
        check.due("taken(0, 0)", x.taken(0, 0), -1);
        check.due("tick()", x.tick(), 0);
        check.due("NONE", FlowFabric.NONE, -1);
        for (int port = 0; port < 4; port++) {
            check.due("a free port", x.link(0, port, 1, port), true);
            check.due("a free port", x.link(2, port, 3, port), true);
            check.due("a free port", x.attach(4, port), port);
        }
    }

    private static void hostsAreNumbered() {
        check.part("2 attach");
        FlowFabric x = new FlowFabric(2, 4, 4);
        check.due("attach(1, 3)", x.attach(1, 3), 0);
        check.due("attach(0, 0)", x.attach(0, 0), 1);
        check.due("attach(1, 0)", x.attach(1, 0), 2);
        x.guard(1, 0, 0, 3);
        x.send(2, 0, 7);
        check.due("the host is at its port", x.taken(0, 1), 7);
    }

    private static void attachIsRefused() {
        check.part("2 attach refused");
        FlowFabric x = new FlowFabric(4, 4, 4);
        x.link(0, 1, 1, 1);
        int[][] wrong = {
            {-1, 0}, {4, 0}, {0, -1}, {0, 4}, {Integer.MIN_VALUE, 0}, {0, Integer.MAX_VALUE},
            {0, 1}, {1, 1},
        };
        for (int[] row : wrong) {
            check.due("attach(" + row[0] + ", " + row[1] + ")", x.attach(row[0], row[1]), -1);
        }
        int[][] right = {{0, 0}, {0, 2}, {0, 3}, {1, 0}, {1, 2}, {1, 3}};
        for (int host = 0; host < 6; host++) {
            check.due("the numbers have no gap", x.attach(right[host][0], right[host][1]), host);
            check.due("a port has one host", x.attach(right[host][0], right[host][1]), -1);
        }
        check.due("a seventh host", x.attach(2, 0), -2);
        check.due("the port that has a host is named first", x.attach(0, 0), -1);
        check.due("and so is the port that is not there", x.attach(0, 4), -1);
        check.due("the refused port is still free", x.link(2, 0, 3, 0), true);
    }

    private static void linksJoinPorts() {
        check.part("3 link");
        FlowFabric x = new FlowFabric(2, 4, 4);
        x.attach(0, 0);
        x.attach(1, 0);
        check.due("link(0, 3, 1, 2)", x.link(0, 3, 1, 2), true);
        check.due("a second link of the two", x.link(1, 1, 0, 1), true);
        x.guard(0, 0, 0, 3);
        x.guard(1, 0, 3, 0);
        check.due("send(0, 1, 4)", x.send(0, 1, 4), true);
        check.due("it is up at once", x.waiting(0, 3), 1);
        check.due("carry(0, 3)", x.carry(0, 3), true);
        check.due("it came in at port 2", x.hits(1, 0), 1);
        check.due("taken(1, 1)", x.taken(1, 1), 4);
    }

    private static void linkIsRefused() {
        check.part("3 link refused");
        FlowFabric x = new FlowFabric(3, 4, 4);
        x.attach(0, 0);
        x.link(0, 1, 1, 1);
        int[][] wrong = {
            {-1, 2, 1, 2}, {3, 2, 1, 2}, {0, -1, 1, 2}, {0, 4, 1, 2},
            {0, 2, -1, 2}, {0, 2, 3, 2}, {0, 2, 1, -1}, {0, 2, 1, 4},
            {0, 0, 1, 2}, {1, 2, 0, 0}, {0, 1, 1, 2}, {1, 2, 0, 1}, {1, 1, 2, 2},
            {0, 2, 0, 3}, {0, 2, 0, 2},
        };
        for (int[] row : wrong) {
            check.due("link(" + row[0] + ", " + row[1] + ", " + row[2] + ", " + row[3] + ")",
                    x.link(row[0], row[1], row[2], row[3]), false);
        }
        check.due("port 0:2 is still free", x.attach(0, 2), 1);
        check.due("port 1:2 is still free", x.attach(1, 2), 2);
    }

    private static void turnLosesFramesAndReports() {
        check.part("4 turn");
        FlowFabric x = Nets.row(3, 4, 4);
        x.probe();
        Nets.obeyAll(x, 3);
        check.due("down", x.turn(0, 2, false), true);
        check.due("this wire is empty", x.waiting(0, 2), 0);
        check.due("the other end's wire is empty", x.waiting(1, 1), 0);
        check.due("other wires are not", x.waiting(1, 2), 1);
        check.due("reports of 0", x.waiting(0, 5), 1);
        check.due("reports of 1", x.waiting(1, 5), 1);
        check.due("reports of 2", x.waiting(2, 5), 0);
        check.due("carry(0, 2)", x.carry(0, 2), false);
        x.probe();
        Nets.obeyAll(x, 3);
        check.due("nothing comes to a wire that is down", x.waiting(0, 2), 0);
        check.due("nor to the other one", x.waiting(1, 1), 0);
        check.due("report(0)", x.report(0), 5);
        check.due("report(1)", x.report(1), 5);
        check.due("up, from the other end", x.turn(1, 1, true), true);
        check.due("up reports nothing", x.waiting(0, 5), 0);
        check.due("up reports nothing", x.waiting(1, 5), 0);
        x.probe();
        Nets.obeyAll(x, 3);
        check.due("the wire holds frames again", x.waiting(0, 2), 1);
        check.due("and the other one", x.waiting(1, 1), 1);
    }

    private static void turnIsRefused() {
        check.part("4 turn refused");
        FlowFabric x = Nets.row(2, 4, 4);
        x.attach(0, 0);
        int[][] wrong = {{-1, 2}, {2, 2}, {0, -1}, {0, 4}, {0, 0}, {0, 1}, {1, 2}};
        for (int[] row : wrong) {
            check.due("turn(" + row[0] + ", " + row[1] + ", false)",
                    x.turn(row[0], row[1], false), false);
            check.due("turn(" + row[0] + ", " + row[1] + ", true)",
                    x.turn(row[0], row[1], true), false);
        }
        check.due("up already", x.turn(0, 2, true), false);
        for (int k = 0; k < 20; k++) {
            check.due("down " + k, x.turn(k % 2, 2 - k % 2, false), true);
            check.due("down already, at the other end", x.turn(1, 1, false), false);
            check.due("up " + k, x.turn(1, 1, true), k < 19);
        }
        check.due("reports of 0", x.waiting(0, 5), 20);
        check.due("reports of 1", x.waiting(1, 5), 20);
        x.report(0);
        check.due("the far switch still has twenty", x.turn(0, 2, true), false);
        x.report(1);
        check.due("now nineteen each", x.turn(0, 2, true), true);
        check.due("down with nineteen", x.turn(0, 2, false), true);
        check.due("reports of 1", x.waiting(1, 5), 20);
    }

    private static void turnIsRefusedForTheFarSwitch() {
        check.part("4 turn refused, far switch");
        FlowFabric x = Nets.row(3, 4, 4);
        for (int k = 0; k < 20; k++) {
            x.turn(1, 2, false);
            x.turn(1, 2, true);
        }
        x.attach(0, 0);
        x.attach(1, 0);
        x.guard(0, 0, 0, 2);
        x.send(0, 1, 3);
        check.due("down from the empty switch", x.turn(0, 2, false), false);
        check.due("down from the full one", x.turn(1, 1, false), false);
        check.due("no report is added", x.waiting(0, 5), 0);
        check.due("no report is added", x.waiting(1, 5), 20);
        check.due("no frame is lost", x.waiting(0, 2), 1);
    }
}
