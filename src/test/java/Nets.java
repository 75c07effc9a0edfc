/** Fabrics that several tests begin with. */
final class Nets {
    private static final int MANY = 200;

    private Nets() {}

    /** Each switch sends its probes, all of them cross, and the controller hears of them. */
    static void learn(FlowFabric x, int switches) {
        x.probe();
        obeyAll(x, switches);
        for (int node = 0; node < switches; node++) {
            for (int port = 0; port < 4; port++) {
                x.carry(node, port);
            }
        }
        reportAll(x, switches);
    }

    static void obeyAll(FlowFabric x, int switches) {
        for (int node = 0; node < switches; node++) {
            for (int k = 0; k < MANY && x.waiting(node, 4) > 0; k++) {
                x.obey(node);
            }
        }
    }

    static void reportAll(FlowFabric x, int switches) {
        for (int node = 0; node < switches; node++) {
            for (int k = 0; k < MANY && x.waiting(node, 5) > 0; k++) {
                x.report(node);
            }
        }
    }

    /** Orders are carried out and reports heard, so many times. */
    static void settle(FlowFabric x, int switches, int times) {
        for (int k = 0; k < times; k++) {
            obeyAll(x, switches);
            reportAll(x, switches);
        }
    }

    /** Switches in a row, each joined by its port 2 to port 1 of the next one. */
    static FlowFabric row(int switches, int room, int idle) {
        FlowFabric x = new FlowFabric(switches, room, idle);
        for (int node = 0; node + 1 < switches; node++) {
            x.link(node, 2, node + 1, 1);
        }
        return x;
    }

    /**
     * A row with host 0 at the first switch's port 0, host 1 at the last one's, and host 2, who is
     * silent, at the first one's port 3. The links and the places of hosts 0 and 1 are known;
     * there is no course, and nothing waits.
     */
    static FlowFabric learnedRow(int switches, int room, int idle) {
        FlowFabric x = row(switches, room, idle);
        x.attach(0, 0);
        x.attach(switches - 1, 0);
        x.attach(0, 3);
        learn(x, switches);
        x.send(0, 2, 1);
        x.send(1, 2, 2);
        reportAll(x, switches);
        obeyAll(x, switches);
        return x;
    }

    /** A learned row where the course from host 0 to host 1 is laid and its datagram went out. */
    static FlowFabric laidRow(int switches, int room, int idle) {
        FlowFabric x = learnedRow(switches, room, idle);
        x.send(0, 1, 3);
        x.report(0);
        settle(x, switches, switches);
        obeyAll(x, switches);
        return x;
    }

    /** Hosts 0 .. count - 1 (at most 4) at the ports of switch 0, their places known. */
    static FlowFabric star(int count, int room, int idle) {
        FlowFabric x = new FlowFabric(2, room, idle);
        for (int port = 0; port < count; port++) {
            x.attach(0, port);
        }
        int silent = x.attach(1, 0);
        for (int host = 0; host < count; host++) {
            x.send(host, silent, 1);
        }
        reportAll(x, 2);
        obeyAll(x, 2);
        return x;
    }
}
