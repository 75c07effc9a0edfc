/** Promises 10 (what a report makes known), 11, 17 and 18: report, probe, known, place. */
public final class LearnTest {
    private static final Check check = new Check();

    private LearnTest() {}

    public static void main(String[] args) {
        reportIsRefused();
        probeOrdersEachSwitch();
        probeIsRefused();
        seenMakesBothEndsKnown();
        downMakesBothEndsUnknown();
        lateSeenIsBelieved();
        knownIsRefused();
        missTellsThePlace();
        markedPortsTellNoPlace();
        seenTakesPlacesAway();
        marksStayWhenTheLinkIsDown();
        outsLeaveMarkedPortsOut();
        outsNeedAPort();
        outsAreLostAtSixteen();
        placeIsRefused();
        check.end();
    }

    private static void reportIsRefused() {
        check.part("10 report refused");
        FlowFabric x = new FlowFabric(2, 4, 4);
        int[] wrong = {-1, 2, 0, 1, Integer.MIN_VALUE, Integer.MAX_VALUE};
        for (int node : wrong) {
            check.due("report(" + node + ")", x.report(node), -1);
        }
    }

    private static void probeOrdersEachSwitch() {
        check.part("11 probe");
        FlowFabric x = Nets.row(3, 4, 4);
        check.due("probe()", x.probe(), true);
        for (int node = 0; node < 3; node++) {
            check.due("orders of " + node, x.waiting(node, 4), 1);
            check.due("PROBES", x.obey(node), 5);
        }
    }

    private static void probeIsRefused() {
        check.part("11 probe refused");
        FlowFabric x = new FlowFabric(3, 4, 4);
        for (int k = 0; k < 16; k++) {
            check.due("probe " + k, x.probe(), true);
        }
        check.due("sixteen each", x.probe(), false);
        x.obey(0);
        check.due("sixteen at two", x.probe(), false);
        x.obey(1);
        check.due("sixteen at one", x.probe(), false);
        check.due("nobody got one", x.waiting(0, 4), 15);
        check.due("nobody got one", x.waiting(1, 4), 15);
        check.due("nobody got one", x.waiting(2, 4), 16);
        x.obey(2);
        check.due("fifteen each", x.probe(), true);
        check.due("all got one", x.waiting(2, 4), 16);
    }

    private static void seenMakesBothEndsKnown() {
        check.part("10 SEEN, 17 known");
        FlowFabric x = Nets.row(3, 4, 4);
        x.probe();
        x.obey(1);
        x.carry(1, 2);
        check.due("not before the report", x.known(1, 2), -1);
        check.due("SEEN", x.report(2), 1);
        check.due("known(1, 2)", x.known(1, 2), 9);
        check.due("known(2, 1)", x.known(2, 1), 6);
        check.due("not the other link", x.known(1, 1), -1);
        x.carry(1, 1);
        check.due("SEEN", x.report(0), 1);
        check.due("known(1, 1)", x.known(1, 1), 2);
        check.due("known(0, 2)", x.known(0, 2), 5);
        check.due("a free port", x.known(0, 0), -1);
    }

    private static void downMakesBothEndsUnknown() {
        check.part("10 DOWN, 17 known");
        FlowFabric x = Nets.row(3, 4, 4);
        Nets.learn(x, 3);
        x.turn(0, 2, false);
        check.due("not before the report", x.known(0, 2), 5);
        check.due("DOWN", x.report(1), 5);
        check.due("known(0, 2)", x.known(0, 2), -1);
        check.due("known(1, 1)", x.known(1, 1), -1);
        check.due("the other link stays", x.known(1, 2), 9);
        x.turn(0, 2, true);
        x.probe();
        x.obey(1);
        x.carry(1, 1);
        check.due("DOWN of an unknown end", x.report(0), 5);
        check.due("known(0, 2)", x.known(0, 2), -1);
        check.due("SEEN", x.report(0), 1);
        check.due("known(0, 2)", x.known(0, 2), 5);
        check.due("known(1, 1)", x.known(1, 1), 2);
    }

    private static void lateSeenIsBelieved() {
        check.part("10 SEEN behind a DOWN");
        FlowFabric x = Nets.row(2, 4, 4);
        x.probe();
        x.obey(0);
        x.carry(0, 2);
        x.turn(0, 2, false);
        check.due("DOWN", x.report(0), 5);
        check.due("SEEN", x.report(1), 1);
        check.due("known, though it is down", x.known(0, 2), 5);
        check.due("DOWN", x.report(1), 5);
        check.due("not any more", x.known(0, 2), -1);
    }

    private static void knownIsRefused() {
        check.part("17 known refused");
        FlowFabric x = Nets.row(2, 4, 4);
        Nets.learn(x, 2);
        int[][] wrong = {
            {-1, 2}, {2, 2}, {0, -1}, {0, 4}, {0, 5}, {1, -2}, {Integer.MIN_VALUE, 0},
            {0, Integer.MAX_VALUE},
        };
        for (int[] row : wrong) {
            check.due("known(" + row[0] + ", " + row[1] + ")", x.known(row[0], row[1]), -1);
        }
        check.due("known(0, 2)", x.known(0, 2), 5);
    }

    private static void missTellsThePlace() {
        check.part("10 MISS, 18 place");
        FlowFabric x = Nets.row(2, 4, 4);
        x.attach(0, 0);
        x.attach(1, 3);
        x.send(1, 0, 5);
        check.due("not before the report", x.place(1), -1);
        check.due("MISS", x.report(1), 0);
        check.due("place(1)", x.place(1), 7);
        check.due("place(0)", x.place(0), -1);
        x.obey(1);
        x.carry(1, 1);
        check.due("the flood is missed at the next switch", x.report(0), 0);
        check.due("that port is its place now", x.place(1), 2);
        x.send(1, 0, 6);
        x.report(1);
        check.due("and this one again", x.place(1), 7);
    }

    private static void markedPortsTellNoPlace() {
        check.part("10 MISS at a marked port");
        FlowFabric x = Nets.row(2, 4, 4);
        x.attach(0, 0);
        x.attach(1, 3);
        Nets.learn(x, 2);
        x.guard(1, 0, 0, 1);
        x.send(1, 0, 5);
        x.carry(1, 1);
        check.due("MISS", x.report(0), 0);
        check.due("no place", x.place(1), -1);
        check.due("it is flooded all the same", x.waiting(0, 4), 1);
    }

    private static void seenTakesPlacesAway() {
        check.part("10 SEEN, 18 place");
        FlowFabric x = Nets.row(2, 4, 4);
        x.attach(0, 0);
        x.attach(1, 3);
        x.attach(0, 3);
        x.send(2, 0, 4);
        x.report(0);
        x.send(1, 0, 5);
        x.report(1);
        x.obey(1);
        x.obey(1);
        x.carry(1, 1);
        x.carry(1, 1);
        Nets.reportAll(x, 1);
        check.due("place(1)", x.place(1), 2);
        check.due("the flood of host 2 came back", x.place(2), 2);
        x.probe();
        Nets.obeyAll(x, 2);
        for (int k = 0; k < 6; k++) {
            x.carry(0, 2);
        }
        while (x.report(1) == 0) {
            continue;
        }
        check.due("known(0, 2)", x.known(0, 2), 5);
        check.due("the place is an end's origin", x.place(1), -1);
        check.due("of both hosts", x.place(2), -1);
    }

    private static void marksStayWhenTheLinkIsDown() {
        check.part("10 marks stay");
        FlowFabric x = Nets.row(2, 4, 4);
        x.attach(0, 0);
        x.attach(1, 3);
        Nets.learn(x, 2);
        x.guard(1, 0, 0, 1);
        x.send(1, 0, 5);
        x.carry(1, 1);
        x.turn(0, 2, false);
        check.due("DOWN", x.report(1), 5);
        check.due("MISS", x.report(0), 0);
        check.due("a marked port, though not known", x.place(1), -1);
        check.due("DOWN", x.report(0), 5);
        x.turn(0, 2, true);
        Nets.obeyAll(x, 2);
        check.due("no OUT at it", x.waiting(0, 2), 0);
        check.due("no OUT at it", x.waiting(1, 1), 0);
    }

    private static void outsLeaveMarkedPortsOut() {
        check.part("10 OUTs");
        FlowFabric x = Nets.row(3, 4, 4);
        x.attach(0, 0);
        x.attach(2, 0);
        x.link(0, 1, 2, 3);
        x.probe();
        x.obey(0);
        x.carry(0, 1);
        x.carry(0, 2);
        x.report(1);
        x.report(2);
        x.send(0, 1, 5);
        check.due("MISS", x.report(0), 0);
        Nets.obeyAll(x, 3);
        check.due("0:1 is marked", x.waiting(0, 1), 0);
        check.due("0:2 is marked", x.waiting(0, 2), 0);
        check.due("1:1 is marked: a probe alone", x.waiting(1, 1), 1);
        check.due("1:2 is not: a probe and the datagram", x.waiting(1, 2), 2);
        check.due("2:1 is not: a probe and the datagram", x.waiting(2, 1), 2);
        check.due("2:3 is marked: a probe alone", x.waiting(2, 3), 1);
        check.due("taken", x.taken(1, 1), 5);
        check.due("nothing went back", x.taken(0, 0), 0);
    }

    private static void outsNeedAPort() {
        check.part("10 OUTs without a port");
        FlowFabric x = new FlowFabric(3, 4, 4);
        x.attach(0, 0);
        x.attach(2, 2);
        for (int port = 1; port < 4; port++) {
            x.link(0, port, 1, port);
        }
        x.link(1, 0, 2, 0);
        Nets.learn(x, 3);
        x.send(0, 1, 5);
        check.due("MISS", x.report(0), 0);
        check.due("only the port of the MISS is not marked", x.waiting(0, 4), 0);
        check.due("all ports are marked", x.waiting(1, 4), 0);
        check.due("ports are left", x.waiting(2, 4), 1);
        x.obey(2);
        check.due("taken", x.taken(1, 1), 5);
    }

    private static void outsAreLostAtSixteen() {
        check.part("10 OUTs at sixteen orders");
        FlowFabric x = new FlowFabric(2, 4, 4);
        x.attach(0, 0);
        x.attach(1, 0);
        for (int k = 0; k < 15; k++) {
            x.probe();
        }
        x.obey(1);
        x.send(0, 1, 5);
        x.send(0, 1, 6);
        x.send(0, 1, 7);
        x.report(0);
        check.due("the sixteenth", x.waiting(0, 4), 16);
        check.due("the fifteenth", x.waiting(1, 4), 15);
        x.report(0);
        check.due("lost", x.waiting(0, 4), 16);
        check.due("the sixteenth", x.waiting(1, 4), 16);
        x.report(0);
        check.due("lost", x.waiting(1, 4), 16);
        Nets.obeyAll(x, 2);
        check.due("two came to the host", x.taken(1, 0), 2);
        check.due("the first two", x.taken(1, 1), 6);
    }

    private static void placeIsRefused() {
        check.part("18 place refused");
        FlowFabric x = Nets.star(2, 4, 4);
        int[] wrong = {-1, 3, 5, 6, Integer.MIN_VALUE, Integer.MAX_VALUE};
        for (int host : wrong) {
            check.due("place(" + host + ")", x.place(host), -1);
        }
        check.due("place(0)", x.place(0), 0);
        check.due("place(1)", x.place(1), 1);
        check.due("the silent one", x.place(2), -1);
    }
}
