/** Promises 5, 6 and 15: guard, unguard, hits. */
public final class GuardTest {
    private static final Check check = new Check();

    private GuardTest() {}

    public static void main(String[] args) {
        guardsAreNumbered();
        guardIsRefused();
        matchesAreTakenApart();
        theGreatestPriorityCounts();
        verdictsSendOut();
        verdictsLoseAndMiss();
        guardsStandAheadOfRules();
        guardsComeOut();
        unguardAndHitsAreRefused();
        check.end();
    }

    /** Four hosts at the ports of switch 0, host 4 at 1:0, and no link. */
    private static FlowFabric hosts() {
        FlowFabric x = new FlowFabric(2, 4, 4);
        for (int port = 0; port < 4; port++) {
            x.attach(0, port);
        }
        x.attach(1, 0);
        return x;
    }

    private static void guardsAreNumbered() {
        check.part("5 guard");
        FlowFabric x = new FlowFabric(2, 4, 4);
        check.due("least", x.guard(0, 0, 0, 0), 0);
        check.due("greatest, of hosts that are not there", x.guard(0, 9, 4 + 48 + 384, 6), 1);
        check.due("another switch", x.guard(1, 3, 0, 5), 0);
        check.due("third", x.guard(0, 3, 0, 5), 2);
        check.due("fourth, as one that is there", x.guard(0, 3, 0, 5), 3);
        check.due("fifth", x.guard(0, 3, 0, 5), -2);
        check.due("wrong is named before full", x.guard(0, 10, 0, 5), -1);
        check.due("wrong is named before full", x.guard(0, 3, 512, 5), -1);
        check.due("wrong is named before full", x.guard(0, 3, 0, 7), -1);
        check.due("no fifth was made", x.hits(0, 4), -1);
    }

    private static void guardIsRefused() {
        check.part("5 guard refused");
        FlowFabric x = new FlowFabric(2, 4, 4);
        int[][] wrong = {
            {-1, 0, 0, 0}, {2, 0, 0, 0}, {0, -1, 0, 0}, {0, 10, 0, 0}, {0, 0, 0, -1}, {0, 0, 0, 7},
            {0, 0, -1, 0}, {0, 0, 512, 0}, {0, 0, 511, 0}, {0, 0, 5, 0}, {0, 0, 6, 0}, {0, 0, 7, 0},
            {0, 0, 56, 0}, {0, 0, 448, 0}, {0, 0, 4 + 56, 0}, {0, 0, 48 + 448, 0},
            {0, 0, 512 + 1, 0}, {0, 0, Integer.MIN_VALUE, 0}, {0, 0, Integer.MAX_VALUE, 0},
            {Integer.MAX_VALUE, 0, 0, 0}, {0, Integer.MIN_VALUE, 0, 0},
        };
        for (int[] row : wrong) {
            check.due("guard(" + row[0] + ", " + row[1] + ", " + row[2] + ", " + row[3] + ")",
                    x.guard(row[0], row[1], row[2], row[3]), -1);
        }
        check.due("none was made", x.guard(0, 0, 4, 0), 0);
        check.due("the greatest first host", x.guard(0, 0, 48, 0), 1);
        check.due("the greatest second host", x.guard(0, 0, 384, 0), 2);
    }

    private static void matchesAreTakenApart() {
        check.part("5 match");
        int[][] sends = {{0, 1}, {1, 0}, {2, 3}, {3, 2}, {0, 3}, {1, 3}};
        int[][] cases = {
            {0, 6}, {1, 2}, {2, 2}, {3, 1}, {4, 1}, {8, 2}, {16, 2}, {24, 1}, {32, 1}, {40, 0},
            {64, 1}, {128, 1}, {192, 1}, {256, 3}, {320, 0}, {1 + 256, 1}, {1 + 16, 0},
            {8 + 128, 1}, {2 + 16 + 256, 1}, {2 + 16 + 192, 0}, {3 + 256, 1},
        };
        for (int[] row : cases) {
            FlowFabric x = hosts();
            x.guard(0, 1, row[0], 4);
            for (int[] pair : sends) {
                x.send(pair[0], pair[1], 1);
            }
            check.due("hits of match " + row[0], x.hits(0, 0), row[1]);
            check.due("the rest was missed", x.waiting(0, 5), 6 - row[1]);
        }
    }

    private static void theGreatestPriorityCounts() {
        check.part("5 priority");
        FlowFabric x = hosts();
        x.guard(0, 4, 0, 4);
        x.guard(0, 7, 0, 1);
        x.guard(0, 7, 0, 4);
        x.guard(0, 9, 64, 4);
        x.send(0, 1, 11);
        check.due("the least", x.hits(0, 0), 0);
        check.due("the first of the greatest that match", x.hits(0, 1), 1);
        check.due("the second of them", x.hits(0, 2), 0);
        check.due("the greatest of all does not match", x.hits(0, 3), 0);
        check.due("its verdict counts", x.taken(1, 1), 11);
        x.send(1, 0, 12);
        check.due("the greatest of all matches", x.hits(0, 3), 1);
        check.due("and no other is hit", x.hits(0, 1), 1);
    }

    private static void verdictsSendOut() {
        check.part("5 verdicts 0 to 3");
        for (int port = 0; port < 4; port++) {
            FlowFabric x = hosts();
            x.guard(0, 0, 0, port);
            for (int to = 0; to < 4; to++) {
                x.send((to + 1) % 4, to, 20 + to);
            }
            for (int host = 0; host < 4; host++) {
                check.due("taken at " + host + " by verdict " + port,
                        x.taken(host, 0), host == port ? 1 : 0);
            }
            check.due("the others are lost", x.waiting(0, 5), 0);
        }
        FlowFabric x = Nets.row(2, 4, 4);
        x.attach(0, 0);
        x.attach(1, 0);
        x.guard(0, 0, 0, 2);
        x.guard(1, 0, 0, 1);
        x.send(0, 1, 5);
        check.due("to the wire", x.waiting(0, 2), 1);
        x.carry(0, 2);
        check.due("back to where it came from", x.waiting(1, 1), 1);
        x.unguard(0, 0);
        x.guard(0, 0, 0, 3);
        x.carry(1, 1);
        check.due("a free port loses it", x.waiting(0, 5), 0);
        check.due("a free port has no wire", x.waiting(0, 3), 0);
    }

    private static void verdictsLoseAndMiss() {
        check.part("5 verdicts 4 to 6");
        int[][] cases = {{4, 0}, {5, 1}, {6, 1}};
        for (int[] row : cases) {
            FlowFabric x = hosts();
            x.guard(0, 0, 0, row[0]);
            x.send(2, 4, 1);
            check.due("reports by verdict " + row[0], x.waiting(0, 5), row[1]);
            check.due("report by verdict " + row[0], x.report(0), row[1] - 1);
            check.due("place by verdict " + row[0], x.place(2), row[1] == 1 ? 2 : -1);
        }
        FlowFabric x = hosts();
        x.send(2, 4, 1);
        check.due("without a guard it is missed", x.waiting(0, 5), 1);
    }

    private static void guardsStandAheadOfRules() {
        check.part("5 guards and rules");
        FlowFabric x = Nets.laidRow(2, 4, 9);
        check.due("the GO used the rule", x.rule(0, 0, 1, 1), 1);
        x.send(0, 1, 5);
        check.due("without a guard", x.rule(0, 0, 1, 1), 2);
        x.guard(0, 1, 0, 5);
        x.send(0, 1, 6);
        check.due("verdict 5", x.rule(0, 0, 1, 1), 3);
        x.guard(0, 2, 0, 4);
        x.send(0, 1, 7);
        check.due("verdict 4", x.rule(0, 0, 1, 1), 3);
        x.guard(0, 3, 0, 6);
        x.send(0, 1, 8);
        check.due("verdict 6", x.rule(0, 0, 1, 1), 3);
        check.due("it is missed in spite of the rule", x.waiting(0, 5), 1);
        x.guard(0, 4, 0, 1);
        x.send(0, 1, 9);
        check.due("verdict 1", x.rule(0, 0, 1, 1), 3);
        check.due("on the wire", x.waiting(0, 2), 3);
    }

    private static void guardsComeOut() {
        check.part("6 unguard");
        FlowFabric x = hosts();
        x.guard(0, 1, 1, 4);
        x.guard(0, 1, 2, 4);
        x.guard(0, 1, 3, 4);
        x.send(0, 1, 1);
        x.send(1, 0, 1);
        x.send(1, 2, 1);
        check.due("its hits", x.unguard(0, 1), 2);
        check.due("those ahead keep their number", x.hits(0, 0), 1);
        check.due("those behind have one less", x.hits(0, 1), 0);
        check.due("the last number is gone", x.hits(0, 2), -1);
        x.send(2, 0, 1);
        check.due("the one behind it still works", x.hits(0, 1), 1);
        x.send(1, 0, 1);
        check.due("the one taken out does not", x.waiting(0, 5), 1);
        check.due("a new one comes behind", x.guard(0, 1, 2, 4), 2);
        check.due("with no hits", x.hits(0, 2), 0);
        check.due("first", x.unguard(0, 0), 1);
        check.due("first", x.unguard(0, 0), 1);
        check.due("first", x.unguard(0, 0), 0);
        check.due("none left", x.unguard(0, 0), -1);
        for (int k = 0; k < 4; k++) {
            check.due("four fit again", x.guard(0, 1, 0, 4), k);
        }
    }

    private static void unguardAndHitsAreRefused() {
        check.part("6 and 15 refused");
        FlowFabric x = hosts();
        x.guard(0, 0, 0, 4);
        int[][] wrong = {
            {-1, 0}, {2, 0}, {0, -1}, {0, 1}, {0, 9}, {1, 0}, {Integer.MIN_VALUE, 0},
            {0, Integer.MAX_VALUE}, {0, Integer.MIN_VALUE},
        };
        for (int[] row : wrong) {
            check.due("unguard(" + row[0] + ", " + row[1] + ")", x.unguard(row[0], row[1]), -1);
            check.due("hits(" + row[0] + ", " + row[1] + ")", x.hits(row[0], row[1]), -1);
        }
        check.due("it is still there", x.hits(0, 0), 0);
    }
}
