/** Promises 7, 8, 13 and 16: send, carry, waiting, taken. */
public final class FrameTest {
    private static final Check check = new Check();

    private FrameTest() {}

    public static void main(String[] args) {
        sendComesInAtTheHostsPort();
        sendIsRefused();
        framesKeepTheirOrder();
        wiresHoldSix();
        probesAreSeen();
        eightReportsShut();
        carryIsRefused();
        waitingCounts();
        waitingIsRefused();
        takenTellsTheLatest();
        takenIsRefused();
        check.end();
    }

    /** A row of two with a host at each, whose guards send everything over and to the hosts. */
    private static FlowFabric pipe() {
        FlowFabric x = Nets.row(2, 4, 4);
        x.attach(0, 0);
        x.attach(1, 0);
        x.guard(0, 0, 1, 2);
        x.guard(0, 0, 3, 0);
        x.guard(1, 0, 1, 1);
        x.guard(1, 0, 2, 0);
        return x;
    }

    private static void sendComesInAtTheHostsPort() {
        check.part("7 send");
        FlowFabric x = new FlowFabric(3, 4, 4);
        x.attach(2, 3);
        x.attach(0, 1);
        x.guard(2, 0, 4, 6);
        check.due("send(0, 1, 5)", x.send(0, 1, 5), true);
        check.due("it came in at 2:3", x.hits(2, 0), 1);
        check.due("report(2)", x.report(2), 0);
        check.due("place(0)", x.place(0), 11);
        int[] numbers = {0, -1, Integer.MIN_VALUE, Integer.MAX_VALUE};
        FlowFabric y = pipe();
        for (int number : numbers) {
            check.due("any number", y.send(0, 1, number), true);
            y.carry(0, 2);
            check.due("any number", y.taken(1, 1), number);
        }
    }

    private static void sendIsRefused() {
        check.part("7 send refused");
        FlowFabric x = new FlowFabric(2, 4, 4);
        check.due("without hosts", x.send(0, 1, 5), false);
        x.attach(0, 0);
        x.attach(0, 1);
        int[][] wrong = {
            {-1, 0}, {0, -1}, {2, 0}, {0, 2}, {0, 0}, {1, 1}, {6, 0}, {0, 6},
            {Integer.MIN_VALUE, 0}, {0, Integer.MAX_VALUE},
        };
        for (int[] row : wrong) {
            check.due("send(" + row[0] + ", " + row[1] + ", 1)", x.send(row[0], row[1], 1), false);
        }
        check.due("nothing came in", x.waiting(0, 5), 0);
        check.due("send(1, 0, 1)", x.send(1, 0, 1), true);
    }

    private static void framesKeepTheirOrder() {
        check.part("8 carry");
        FlowFabric x = pipe();
        x.send(0, 1, 5);
        x.send(0, 1, 6);
        x.send(1, 0, 7);
        check.due("two there", x.waiting(0, 2), 2);
        check.due("one back", x.waiting(1, 1), 1);
        check.due("carry(0, 2)", x.carry(0, 2), true);
        check.due("the first one", x.taken(1, 1), 5);
        check.due("one left", x.waiting(0, 2), 1);
        check.due("the other wire is another one", x.waiting(1, 1), 1);
        check.due("carry(0, 2)", x.carry(0, 2), true);
        check.due("the second one", x.taken(1, 1), 6);
        check.due("carry(0, 2)", x.carry(0, 2), false);
        check.due("carry(1, 1)", x.carry(1, 1), true);
        check.due("at the port of the other end", x.hits(0, 1), 1);
        check.due("taken(0, 1)", x.taken(0, 1), 7);
    }

    private static void wiresHoldSix() {
        check.part("8 a wire holds six");
        FlowFabric x = pipe();
        for (int number = 1; number <= 8; number++) {
            check.due("send", x.send(0, 1, number), true);
            check.due("on the wire", x.waiting(0, 2), Math.min(number, 6));
        }
        x.probe();
        x.obey(0);
        check.due("a probe is lost, too", x.waiting(0, 2), 6);
        for (int number = 1; number <= 6; number++) {
            check.due("carry", x.carry(0, 2), true);
            check.due("the first six", x.taken(1, 1), number);
        }
        check.due("carry", x.carry(0, 2), false);
        x.send(0, 1, 9);
        check.due("there is room again", x.waiting(0, 2), 1);
    }

    private static void probesAreSeen() {
        check.part("8 probes");
        FlowFabric x = pipe();
        x.send(0, 1, 5);
        x.probe();
        x.obey(0);
        check.due("behind the datagram", x.waiting(0, 2), 2);
        x.carry(0, 2);
        check.due("the datagram goes ahead", x.taken(1, 1), 5);
        check.due("carry(0, 2)", x.carry(0, 2), true);
        check.due("no guard sees it", x.hits(1, 1), 1);
        check.due("reports", x.waiting(1, 5), 1);
        check.due("report(1)", x.report(1), 1);
        check.due("known(0, 2)", x.known(0, 2), 5);
    }

    private static void eightReportsShut() {
        check.part("8 eight reports");
        FlowFabric x = Nets.row(2, 4, 4);
        x.attach(0, 0);
        x.attach(1, 0);
        for (int k = 1; k <= 9; k++) {
            x.send(1, 0, k);
            check.due("misses", x.waiting(1, 5), Math.min(k, 8));
        }
        x.probe();
        x.obey(0);
        check.due("carry(0, 2)", x.carry(0, 2), true);
        check.due("the SEEN is lost", x.waiting(1, 5), 8);
        check.due("and the probe, too", x.waiting(0, 2), 0);
        x.turn(0, 2, false);
        check.due("a DOWN is not", x.waiting(1, 5), 9);
        x.report(1);
        x.turn(0, 2, true);
        x.probe();
        x.obey(0);
        x.obey(0);
        x.obey(0);
        check.due("carry(0, 2)", x.carry(0, 2), true);
        check.due("eight are still there", x.waiting(1, 5), 8);
        x.report(1);
        x.send(1, 0, 10);
        check.due("the eighth again", x.waiting(1, 5), 8);
        x.report(1);
        x.probe();
        Nets.obeyAll(x, 1);
        x.carry(0, 2);
        check.due("a SEEN as the eighth", x.waiting(1, 5), 8);
    }

    private static void carryIsRefused() {
        check.part("8 carry refused");
        FlowFabric x = pipe();
        int[][] wrong = {
            {-1, 2}, {2, 2}, {0, -1}, {0, 4}, {0, 0}, {0, 1}, {0, 2}, {1, 1},
            {Integer.MAX_VALUE, 0}, {0, Integer.MIN_VALUE},
        };
        for (int[] row : wrong) {
            check.due("carry(" + row[0] + ", " + row[1] + ")", x.carry(row[0], row[1]), false);
        }
    }

    private static void waitingCounts() {
        check.part("13 waiting");
        FlowFabric x = Nets.row(3, 4, 4);
        x.attach(0, 0);
        x.attach(2, 0);
        x.probe();
        x.probe();
        check.due("orders", x.waiting(1, 4), 2);
        x.obey(1);
        check.due("orders", x.waiting(1, 4), 1);
        check.due("on 1:1", x.waiting(1, 1), 1);
        check.due("on 1:2", x.waiting(1, 2), 1);
        check.due("on the free 1:0", x.waiting(1, 0), 0);
        check.due("on the far end", x.waiting(0, 2), 0);
        check.due("at a host", x.waiting(0, 0), 0);
        x.send(0, 1, 1);
        check.due("reports", x.waiting(0, 5), 1);
        check.due("reports of another one", x.waiting(1, 5), 0);
        x.report(0);
        check.due("reports", x.waiting(0, 5), 0);
        check.due("an OUT more", x.waiting(0, 4), 3);
        check.due("an OUT more", x.waiting(1, 4), 2);
    }

    private static void waitingIsRefused() {
        check.part("13 waiting refused");
        FlowFabric x = new FlowFabric(3, 4, 4);
        int[][] wrong = {
            {-1, 0}, {3, 0}, {3, 4}, {-1, 5}, {0, -1}, {0, 6}, {Integer.MIN_VALUE, 0},
            {0, Integer.MAX_VALUE}, {0, Integer.MIN_VALUE},
        };
        for (int[] row : wrong) {
            check.due("waiting(" + row[0] + ", " + row[1] + ")", x.waiting(row[0], row[1]), -1);
        }
    }

    private static void takenTellsTheLatest() {
        check.part("16 taken");
        FlowFabric x = new FlowFabric(2, 4, 4);
        x.attach(0, 0);
        x.attach(0, 1);
        x.attach(0, 2);
        check.due("how many, at first", x.taken(2, 0), 0);
        check.due("the number, at first", x.taken(2, 1), 0);
        check.due("from, at first", x.taken(2, 2), -1);
        x.guard(0, 0, 0, 2);
        x.send(0, 2, -8);
        check.due("how many", x.taken(2, 0), 1);
        check.due("the number", x.taken(2, 1), -8);
        check.due("from", x.taken(2, 2), 0);
        x.send(1, 2, 9);
        check.due("how many", x.taken(2, 0), 2);
        check.due("the number", x.taken(2, 1), 9);
        check.due("from", x.taken(2, 2), 1);
        x.send(2, 1, 10);
        check.due("not for this host", x.taken(2, 0), 2);
        check.due("not at that host's port", x.taken(1, 0), 0);
    }

    private static void takenIsRefused() {
        check.part("16 taken refused");
        FlowFabric x = new FlowFabric(2, 4, 4);
        check.due("taken(0, 0)", x.taken(0, 0), -1);
        x.attach(0, 0);
        int[][] wrong = {
            {-1, 0}, {1, 0}, {1, 1}, {6, 0}, {0, -1}, {0, 3}, {Integer.MIN_VALUE, 0},
            {0, Integer.MAX_VALUE},
        };
        for (int[] row : wrong) {
            check.due("taken(" + row[0] + ", " + row[1] + ")", x.taken(row[0], row[1]), -1);
        }
        check.due("taken(0, 0)", x.taken(0, 0), 0);
    }
}
