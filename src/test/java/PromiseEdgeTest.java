/**
 * The sentences of the promises 1 to 19 that name an edge: the last value inside of it and the
 * first one outside. One test for each sentence, named by the promise and the sentence.
 */
public final class PromiseEdgeTest {
    private static final int LEAST = Integer.MIN_VALUE;
    private static final int MOST = Integer.MAX_VALUE;

    private static final Check check = new Check();

    private PromiseEdgeTest() {}

    public static void main(String[] args) {
        switchesAreTwoToFive();
        roomIsOneToEight();
        idleIsOneToNine();
        allPortsAreFree();
        nothingElseIsThere();
        attachAnswersTheNumber();
        attachWithoutThePort();
        attachAtAPortThatIsNotFree();
        attachWithSixHosts();
        linkOfTwoPorts();
        linkWithoutThePort();
        linkAtAPortThatIsNotFree();
        linkWithinOneSwitch();
        turnLosesTheFramesOfBothEnds();
        turnAddsADownForEach();
        turnAtNoEnd();
        turnOfALinkThatIsSoAlready();
        turnWithTwentyReportsHere();
        turnWithTwentyReportsThere();
        turnWithMoreThanTwentyReports();
        guardWithoutTheSwitch();
        guardPriority();
        guardVerdict();
        guardMatch();
        guardWithFour();
        unguardMovesThoseBehind();
        unguardWithoutTheGuard();
        sendOfAnyNumber();
        sendWithoutTheHosts();
        sendToItself();
        carryTakesTheFirst();
        carryAtNoEnd();
        carryOfAnEmptyWire();
        obeyTakesTheFirst();
        obeyWithoutTheSwitchOrOrders();
        reportTakesTheFirst();
        reportWithoutTheSwitchOrReports();
        probeOrdersEachSwitch();
        probeWithSixteenOrders();
        tickOfUnusedRules();
        tickOfUsedRules();
        tickOfOldRules();
        tickInTheOrderOfTheRules();
        tickHoweverManyReports();
        tickAnswersHowMany();
        waitingOfEachKind();
        waitingAtNoEnd();
        waitingWithoutTheSwitchOrKind();
        ruleOfEachKind();
        ruleWithoutTheSwitchOrRule();
        hitsOfEachGuard();
        takenOfEachKind();
        takenIfThereWasNone();
        takenWithoutTheHostOrKind();
        knownOfEachEnd();
        knownWithoutThePort();
        placeOfEachHost();
        placeWithoutTheHost();
        courseOfEachKind();
        courseKeepsNothing();
        courseWithoutTheCourseOrKind();
        check.end();
    }

    private static void switchesAreTwoToFive() {
        check.part("1: S is switches, but 2 if that is less and 5 if that is more");
        int[][] cases = {
            {LEAST, 2}, {-5, 2}, {0, 2}, {1, 2}, {2, 2}, {3, 3}, {4, 4}, {5, 5}, {6, 5}, {MOST, 5},
        };
        for (int[] row : cases) {
            FlowFabric x = new FlowFabric(row[0], 4, 4);
            check.due(row[0] + ": the last one", x.attach(row[1] - 1, 0), 0);
            check.due(row[0] + ": one more", x.attach(row[1], 0), -1);
        }
    }

    private static void roomIsOneToEight() {
        check.part("1: ROOM is room, but 1 if that is less and 8 if that is more");
        // More than six rules are never there, for there are six courses at most.
        int[][] cases = {
            {LEAST, 1}, {-1, 1}, {0, 1}, {1, 1}, {2, 2}, {3, 3}, {4, 4}, {5, 5}, {6, 6}, {7, 6},
            {8, 6}, {9, 6}, {MOST, 6},
        };
        int[][] pairs = {{0, 1}, {1, 0}, {2, 3}, {3, 2}, {0, 2}, {2, 0}};
        for (int[] row : cases) {
            FlowFabric x = Nets.star(4, row[0], 9);
            for (int[] pair : pairs) {
                x.send(pair[0], pair[1], 5);
            }
            Nets.settle(x, 1, 2);
            int rules = 0;
            for (int[] pair : pairs) {
                rules += x.rule(0, pair[0], pair[1], 0) == -1 ? 0 : 1;
            }
            check.due(row[0] + ": rules", rules, row[1]);
        }
    }

    /** Hosts 0 and 1 at switch 0 and a rule of their pair, made by a PUT and never used. */
    private static FlowFabric ruled(int idle) {
        FlowFabric x = Nets.star(2, 4, idle);
        x.send(0, 1, 5);
        x.report(0);
        x.obey(0);
        return x;
    }

    private static void idleIsOneToNine() {
        check.part("1: IDLE is idle, but 1 if that is less and 9 if that is more");
        int[][] cases = {
            {LEAST, 1}, {-1, 1}, {0, 1}, {1, 1}, {2, 2}, {5, 5}, {8, 8}, {9, 9}, {10, 9}, {MOST, 9},
        };
        for (int[] row : cases) {
            FlowFabric x = ruled(row[0]);
            for (int tick = 1; tick <= row[1]; tick++) {
                check.due(row[0] + ": tick " + tick, x.tick(), tick == row[1] ? 1 : 0);
            }
        }
    }

    private static void allPortsAreFree() {
        check.part("1: All ports are free");
        for (int s = 2; s <= 5; s++) {
            for (int node = 0; node < s; node++) {
                for (int port = 0; port < 4; port++) {
                    check.due("a host at " + node + ":" + port,
                            new FlowFabric(s, 4, 4).attach(node, port), 0);
                    check.due("a link at " + node + ":" + port,
                            new FlowFabric(s, 4, 4).link(node, port, (node + 1) % s, 0), true);
                }
            }
        }
    }

    private static void nothingElseIsThere() {
        check.part("1: nothing else is there");
        for (int s = 2; s <= 5; s++) {
            FlowFabric x = new FlowFabric(s, 4, 4);
            for (int node = 0; node < s; node++) {
                for (int what = 0; what < 6; what++) {
                    check.due("waiting", x.waiting(node, what), 0);
                }
                for (int port = 0; port < 4; port++) {
                    check.due("known", x.known(node, port), -1);
                    check.due("carry", x.carry(node, port), false);
                    check.due("turn", x.turn(node, port, false), false);
                    check.due("turn", x.turn(node, port, true), false);
                }
                check.due("obey", x.obey(node), -1);
                check.due("report", x.report(node), -1);
                check.due("hits", x.hits(node, 0), -1);
                check.due("unguard", x.unguard(node, 0), -1);
                check.due("rule", x.rule(node, 0, 1, 0), -1);
            }
            check.due("tick", x.tick(), 0);
            check.due("send", x.send(0, 1, 5), false);
            check.due("taken", x.taken(0, 0), -1);
            check.due("place", x.place(0), -1);
            check.due("course", x.course(0, 1, -1), -1);
        }
    }

    private static void attachAnswersTheNumber() {
        check.part("2: Attaches a new host to a port: its number");
        FlowFabric x = new FlowFabric(5, 4, 4);
        int[][] ports = {{4, 3}, {0, 0}, {2, 1}, {4, 0}, {0, 3}, {1, 2}};
        for (int host = 0; host < 6; host++) {
            check.due("host " + host, x.attach(ports[host][0], ports[host][1]), host);
        }
        for (int host = 0; host < 6; host++) {
            x.send(host, (host + 1) % 6, 5);
            x.report(ports[host][0]);
            check.due("it is there", x.place(host), 4 * ports[host][0] + ports[host][1]);
        }
    }

    private static void attachWithoutThePort() {
        check.part("2: -1 if there is no such switch or port");
        int[][] wrong = {
            {-1, 0}, {3, 0}, {LEAST, 0}, {MOST, 0}, {0, -1}, {0, 4}, {0, LEAST}, {0, MOST},
            {1, -1}, {2, 4}, {-1, -1}, {3, 4}, {-1, 4}, {1 << 30, 0},
        };
        FlowFabric x = new FlowFabric(3, 4, 4);
        for (int[] row : wrong) {
            check.due("attach(" + row[0] + ", " + row[1] + ")", x.attach(row[0], row[1]), -1);
        }
        check.due("the first number is not used", x.attach(2, 3), 0);
    }

    private static void attachAtAPortThatIsNotFree() {
        check.part("2: -1 if ... it is not free");
        FlowFabric x = Nets.row(2, 4, 4);
        x.attach(0, 0);
        check.due("a host's port", x.attach(0, 0), -1);
        check.due("an end", x.attach(0, 2), -1);
        check.due("its other end", x.attach(1, 1), -1);
        x.turn(0, 2, false);
        check.due("an end that is down", x.attach(0, 2), -1);
        check.due("a free one beside them", x.attach(0, 1), 1);
    }

    private static void attachWithSixHosts() {
        check.part("2: -2 if there are six hosts");
        FlowFabric x = new FlowFabric(3, 4, 4);
        for (int host = 0; host < 6; host++) {
            check.due("with " + host, x.attach(host / 4, host % 4), host);
        }
        check.due("with six", x.attach(1, 2), -2);
        check.due("with six, once more", x.attach(1, 2), -2);
        check.due("the port is still free", x.link(1, 2, 2, 0), true);
        check.due("a port that is not there is named first", x.attach(1, 4), -1);
        check.due("a switch that is not there is named first", x.attach(3, 0), -1);
        check.due("a port that is not free is named first", x.attach(1, 1), -1);
    }

    private static void linkOfTwoPorts() {
        check.part("3: Makes a link between two ports of different switches: true");
        FlowFabric x = new FlowFabric(5, 4, 4);
        check.due("the first and the last port", x.link(0, 0, 4, 3), true);
        check.due("the other way round", x.link(4, 0, 0, 3), true);
        check.due("of switches beside each other", x.link(0, 1, 1, 1), true);
        check.due("a second one of the two", x.link(1, 2, 0, 2), true);
        x.probe();
        Nets.obeyAll(x, 5);
        int[][] ends = {{0, 0, 19}, {4, 3, 0}, {4, 0, 3}, {0, 3, 16}, {1, 2, 2}, {0, 2, 6}};
        for (int[] end : ends) {
            x.carry(end[0], end[1]);
            x.report(end[2] / 4);
            check.due("joined to", x.known(end[0], end[1]), end[2]);
        }
    }

    private static void linkWithoutThePort() {
        check.part("3: false if one of them is not there");
        int[][] wrong = {
            {-1, 0}, {3, 0}, {0, -1}, {0, 4}, {LEAST, 0}, {MOST, 0}, {0, LEAST}, {0, MOST},
            {2, 4}, {1, -1}, {1 << 30, 0},
        };
        FlowFabric x = new FlowFabric(3, 4, 4);
        for (int[] row : wrong) {
            for (int node = 0; node < 3; node++) {
                String name = row[0] + ":" + row[1] + " and " + node + ":2";
                check.due(name, x.link(row[0], row[1], node, 2), false);
                check.due(name + " turned round", x.link(node, 2, row[0], row[1]), false);
            }
        }
        check.due("neither", x.link(-1, 0, 3, 0), false);
        for (int node = 0; node < 3; node++) {
            check.due("still free", x.attach(node, 2), node);
        }
    }

    private static void linkAtAPortThatIsNotFree() {
        check.part("3: false if one of them is ... not free");
        FlowFabric x = new FlowFabric(3, 4, 4);
        x.attach(0, 0);
        x.link(0, 1, 1, 1);
        int[][] taken = {{0, 0}, {0, 1}};
        for (int[] row : taken) {
            check.due("the first", x.link(row[0], row[1], 2, 2), false);
            check.due("the second", x.link(2, 2, row[0], row[1]), false);
        }
        check.due("the other end, first", x.link(1, 1, 2, 2), false);
        check.due("the other end, second", x.link(2, 2, 1, 1), false);
        check.due("the same link again", x.link(0, 1, 1, 1), false);
        check.due("the same link turned round", x.link(1, 1, 0, 1), false);
        check.due("both", x.link(0, 0, 1, 1), false);
        check.due("the free one is free", x.link(2, 2, 1, 2), true);
    }

    private static void linkWithinOneSwitch() {
        check.part("3: false if ... both are of one switch");
        FlowFabric x = new FlowFabric(2, 4, 4);
        for (int node = 0; node < 2; node++) {
            check.due("two ports", x.link(node, 0, node, 1), false);
            check.due("one port", x.link(node, 3, node, 3), false);
        }
        for (int port = 0; port < 4; port++) {
            check.due("they are free", x.link(0, port, 1, port), true);
        }
    }

    private static void turnLosesTheFramesOfBothEnds() {
        check.part("4: When it goes down, the frames on the wires of both ends are lost");
        for (int node = 0; node < 2; node++) {
            FlowFabric x = Nets.row(3, 4, 4);
            for (int k = 0; k < 6; k++) {
                x.probe();
                Nets.obeyAll(x, 3);
            }
            check.due("six each", x.waiting(0, 2) + x.waiting(1, 1), 12);
            check.due("down", x.turn(node, 2 - node, false), true);
            check.due("this end", x.waiting(node, 2 - node), 0);
            check.due("the other end", x.waiting(1 - node, 1 + node), 0);
            check.due("another link of the switch", x.waiting(1, 2), 6);
            check.due("its other end", x.waiting(2, 1), 6);
            check.due("up", x.turn(node, 2 - node, true), true);
            check.due("they do not come back", x.waiting(0, 2) + x.waiting(1, 1), 0);
            x.probe();
            Nets.obeyAll(x, 3);
            x.turn(2, 1, false);
            x.turn(2, 1, true);
            check.due("going up loses nothing", x.waiting(0, 2) + x.waiting(1, 1), 2);
        }
    }

    private static void turnAddsADownForEach() {
        check.part("4: each of the two switches adds a DOWN (its end) to its reports");
        for (int node = 0; node < 2; node++) {
            FlowFabric x = Nets.row(3, 4, 4);
            Nets.learn(x, 3);
            x.turn(node, 2 - node, false);
            check.due("one here", x.waiting(node, 5), 1);
            check.due("one there", x.waiting(1 - node, 5), 1);
            check.due("none elsewhere", x.waiting(2, 5), 0);
            x.turn(node, 2 - node, true);
            check.due("none for up", x.waiting(0, 5) + x.waiting(1, 5), 2);
            check.due("DOWN", x.report(0), 5);
            check.due("its end", x.known(0, 2), -1);
            check.due("no other end", x.known(1, 2), 9);
            check.due("DOWN", x.report(1), 5);
            check.due("no other end", x.known(1, 2), 9);
        }
    }

    private static void turnAtNoEnd() {
        check.part("4: False if the port is no end");
        int[][] wrong = {
            {-1, 2}, {2, 2}, {LEAST, 2}, {MOST, 2}, {0, -1}, {0, 4}, {0, LEAST}, {0, MOST},
            {0, 0}, {0, 1}, {1, 2}, {1, -2}, {0, 5}, {1 << 30, 2}, {-1, 6},
        };
        FlowFabric x = Nets.row(2, 4, 4);
        x.attach(0, 0);
        for (int[] row : wrong) {
            check.due("down " + row[0] + ":" + row[1], x.turn(row[0], row[1], false), false);
            check.due("up " + row[0] + ":" + row[1], x.turn(row[0], row[1], true), false);
        }
        check.due("no report", x.waiting(0, 5) + x.waiting(1, 5), 0);
    }

    private static void turnOfALinkThatIsSoAlready() {
        check.part("4: False if ... the link is so already");
        FlowFabric x = Nets.row(2, 4, 4);
        check.due("up, at first", x.turn(0, 2, true), false);
        check.due("up, at first, from there", x.turn(1, 1, true), false);
        check.due("down", x.turn(0, 2, false), true);
        check.due("down already", x.turn(0, 2, false), false);
        check.due("down already, from there", x.turn(1, 1, false), false);
        check.due("one DOWN each", x.waiting(0, 5) + x.waiting(1, 5), 2);
        check.due("up, from there", x.turn(1, 1, true), true);
        check.due("up already", x.turn(0, 2, true), false);
        check.due("up already, from there", x.turn(1, 1, true), false);
    }

    /**
     * A row of three; switch 1 has so many reports, DOWNs of its link to switch 2, which has none;
     * the link to switch 0 has a frame on each wire and is up or down.
     */
    private static FlowFabric reported(int count, boolean up) {
        FlowFabric x = Nets.row(3, 4, 4);
        int more = up ? count : count - 1;
        for (int k = 0; k < more; k++) {
            x.turn(1, 2, false);
            x.report(2);
            x.turn(1, 2, true);
        }
        x.probe();
        Nets.obeyAll(x, 3);
        if (!up) {
            x.turn(0, 2, false);
            x.report(0);
        }
        return x;
    }

    private static void turnWithTwentyReports(int node, int port) {
        for (int count = 18; count <= 20; count++) {
            FlowFabric x = reported(count, true);
            check.due("reports", x.waiting(1, 5), count);
            check.due("down with " + count, x.turn(node, port, false), count < 20);
            check.due("reports of 1", x.waiting(1, 5), Math.min(count + 1, 20));
            check.due("reports of 0", x.waiting(0, 5), count < 20 ? 1 : 0);
            check.due("frames of 0", x.waiting(0, 2), count < 20 ? 0 : 1);
            check.due("frames of 1", x.waiting(1, 1), count < 20 ? 0 : 1);
            FlowFabric y = reported(count, false);
            check.due("reports", y.waiting(1, 5), count);
            check.due("up with " + count, y.turn(node, port, true), count < 20);
            check.due("reports of 1", y.waiting(1, 5), count);
            y.probe();
            y.obey(0);
            check.due("frames of 0", y.waiting(0, 2), count < 20 ? 1 : 0);
        }
    }

    private static void turnWithTwentyReportsHere() {
        check.part("4: False if ... one of its two switches has twenty reports or more (for up,"
                + " too) (this one)");
        turnWithTwentyReports(1, 1);
    }

    private static void turnWithTwentyReportsThere() {
        check.part("4: False if ... one of its two switches has twenty reports or more (for up,"
                + " too) (the other one)");
        turnWithTwentyReports(0, 2);
    }

    private static void turnWithMoreThanTwentyReports() {
        check.part("4: twenty reports or more");
        FlowFabric x = Nets.laidRow(3, 4, 2);
        for (int k = 0; k < 20; k++) {
            x.turn(1, 2, false);
            x.report(2);
            x.turn(1, 2, true);
        }
        x.tick();
        check.due("three rules", x.tick(), 3);
        check.due("twenty-one reports", x.waiting(1, 5), 21);
        check.due("down, here", x.turn(1, 1, false), false);
        check.due("down, there", x.turn(0, 2, false), false);
        check.due("report", x.report(1), 5);
        check.due("twenty reports", x.turn(0, 2, false), false);
        check.due("report", x.report(1), 5);
        check.due("nineteen reports", x.turn(0, 2, false), true);
    }

    private static void guardWithoutTheSwitch() {
        check.part("5: -1 if there is no such switch");
        FlowFabric x = new FlowFabric(3, 4, 4);
        int[] wrong = {-1, 3, 4, LEAST, MOST};
        for (int node : wrong) {
            check.due("guard(" + node + ", ..)", x.guard(node, 0, 0, 0), -1);
        }
        check.due("the first one", x.guard(0, 0, 0, 0), 0);
        check.due("the last one", x.guard(2, 0, 0, 0), 0);
    }

    private static void guardPriority() {
        check.part("5: -1 if ... priority is not 0 .. 9");
        for (int priority = -2; priority <= 12; priority++) {
            FlowFabric x = new FlowFabric(2, 4, 4);
            boolean right = priority >= 0 && priority <= 9;
            check.due("priority " + priority, x.guard(0, priority, 0, 0), right ? 0 : -1);
            check.due("made", x.hits(0, 0), right ? 0 : -1);
        }
        check.due("the least int", new FlowFabric(2, 4, 4).guard(0, LEAST, 0, 0), -1);
        check.due("the greatest int", new FlowFabric(2, 4, 4).guard(0, MOST, 0, 0), -1);
    }

    private static void guardVerdict() {
        check.part("5: -1 if ... verdict is not 0 .. 6");
        for (int verdict = -2; verdict <= 9; verdict++) {
            FlowFabric x = new FlowFabric(2, 4, 4);
            boolean right = verdict >= 0 && verdict <= 6;
            check.due("verdict " + verdict, x.guard(0, 0, 0, verdict), right ? 0 : -1);
            check.due("made", x.hits(0, 0), right ? 0 : -1);
        }
        check.due("the least int", new FlowFabric(2, 4, 4).guard(0, 0, 0, LEAST), -1);
        check.due("the greatest int", new FlowFabric(2, 4, 4).guard(0, 0, 0, MOST), -1);
    }

    private static void guardMatch() {
        check.part("5: -1 if ... match is no match (less than 0 or more than 511, or with a port"
                + " above 3 or a host above 5; the hosts need not be there)");
        int[] right = {0, 4, 48, 384, 4 + 48 + 384, 1, 8, 64};
        int[] wrong = {
            LEAST, -512, -8, -1, 511, 512, 513, 576, MOST, 5, 6, 7, 56, 448, 5 + 48 + 384,
            4 + 56 + 384, 4 + 48 + 448, LEAST + 1, 1 << 30,
        };
        for (int match : right) {
            check.due("match " + match, new FlowFabric(2, 4, 4).guard(0, 0, match, 0), 0);
        }
        for (int match : wrong) {
            FlowFabric x = new FlowFabric(2, 4, 4);
            check.due("match " + match, x.guard(0, 0, match, 0), -1);
            check.due("none is made", x.hits(0, 0), -1);
        }
    }

    private static void guardWithFour() {
        check.part("5: -2 if the switch has four");
        FlowFabric x = new FlowFabric(2, 4, 4);
        for (int k = 0; k < 4; k++) {
            check.due("with " + k, x.guard(1, 9 - k, 0, 4), k);
        }
        check.due("with four", x.guard(1, 0, 0, 4), -2);
        check.due("no switch is named first", x.guard(2, 0, 0, 4), -1);
        check.due("priority is named first", x.guard(1, -1, 0, 4), -1);
        check.due("priority is named first", x.guard(1, 10, 0, 4), -1);
        check.due("verdict is named first", x.guard(1, 0, 0, -1), -1);
        check.due("verdict is named first", x.guard(1, 0, 0, 7), -1);
        check.due("match is named first", x.guard(1, 0, -1, 4), -1);
        check.due("match is named first", x.guard(1, 0, 512, 4), -1);
        check.due("match is named first", x.guard(1, 0, 5, 4), -1);
        check.due("no fifth", x.hits(1, 4), -1);
        check.due("the other switch has none", x.guard(0, 0, 0, 4), 0);
    }

    /** Four guards of switch 0, hit 4, 3, 2 and 1 times. */
    private static FlowFabric fourGuards() {
        FlowFabric x = new FlowFabric(2, 4, 4);
        for (int port = 0; port < 4; port++) {
            x.attach(0, port);
            x.guard(0, 5, 1 + port, 4);
        }
        for (int port = 0; port < 4; port++) {
            for (int k = port; k < 4; k++) {
                x.send(port, (port + 1) % 4, 1);
            }
        }
        return x;
    }

    private static void unguardMovesThoseBehind() {
        check.part("6: Takes guard k of a switch out (those behind it have one number less then):"
                + " its hits");
        for (int k = 0; k < 4; k++) {
            FlowFabric x = fourGuards();
            check.due("its hits", x.unguard(0, k), 4 - k);
            for (int left = 0; left < 3; left++) {
                check.due("without " + k + ", guard " + left,
                        x.hits(0, left), left < k ? 4 - left : 3 - left);
            }
            check.due("no fourth", x.hits(0, 3), -1);
            x.send(k, (k + 1) % 4, 1);
            check.due("it guards no more", x.waiting(0, 5), 1);
        }
    }

    private static void unguardWithoutTheGuard() {
        check.part("6: NONE if there is no such switch or guard");
        FlowFabric x = fourGuards();
        check.due("none at the other switch", x.unguard(1, 0), -1);
        x.guard(1, 0, 0, 4);
        int[][] wrong = {
            {-1, 0}, {2, 0}, {LEAST, 0}, {MOST, 0}, {0, -1}, {0, 4}, {0, LEAST}, {0, MOST}, {1, 1},
            {1, -1}, {-1, 4}, {2, -1}, {1 << 30, 0},
        };
        for (int[] row : wrong) {
            check.due("unguard(" + row[0] + ", " + row[1] + ")", x.unguard(row[0], row[1]), -1);
        }
        for (int k = 3; k >= 0; k--) {
            check.due("behind the last", x.unguard(0, k + 1), -1);
            check.due("the last", x.unguard(0, k), 4 - k);
        }
        check.due("none left", x.unguard(0, 0), -1);
        check.due("that of the other switch is there still", x.unguard(1, 0), 0);
    }

    private static void sendOfAnyNumber() {
        check.part("7: A host sends a datagram with any number to another one");
        FlowFabric x = new FlowFabric(2, 4, 4);
        x.attach(0, 0);
        x.attach(0, 3);
        x.guard(0, 0, 1, 3);
        int[] numbers = {0, 1, -1, -2, LEAST, MOST, 65536};
        for (int number : numbers) {
            check.due("send", x.send(0, 1, number), true);
            check.due("its number", x.taken(1, 1), number);
        }
    }

    private static void sendWithoutTheHosts() {
        check.part("7: False if one of them is no host");
        FlowFabric x = new FlowFabric(2, 4, 4);
        for (int host = 0; host <= 6; host++) {
            int[] wrong = {-1, host, host + 1, 6, LEAST, MOST};
            for (int other : wrong) {
                check.due(host + " hosts: from " + other, x.send(other, 0, 5), false);
                check.due(host + " hosts: to " + other, x.send(0, other, 5), false);
            }
            if (host >= 2) {
                check.due(host + " hosts: from the last", x.send(host - 1, 0, 5), true);
                check.due(host + " hosts: to the last", x.send(0, host - 1, 5), true);
            }
            x.attach(host / 4, host % 4);
        }
        FlowFabric y = new FlowFabric(2, 4, 4);
        y.attach(0, 0);
        y.send(0, 1, 5);
        y.send(1, 0, 5);
        check.due("nothing comes in", y.waiting(0, 5), 0);
    }

    private static void sendToItself() {
        check.part("7: False if ... both are the same");
        FlowFabric x = new FlowFabric(2, 4, 4);
        for (int host = 0; host < 6; host++) {
            x.attach(host / 4, host % 4);
            x.guard(host / 4, 0, 0, host % 4);
            check.due("to itself: " + host, x.send(host, host, 5), false);
            check.due("it takes nothing", x.taken(host, 0), 0);
        }
        check.due("no hit", x.hits(0, 0) + x.hits(1, 0), 0);
    }

    /** Host 0 at 0:0 and host 1 at 1:0; guards send what each of them sends to the other one. */
    private static FlowFabric pipe() {
        FlowFabric x = Nets.row(2, 4, 4);
        x.attach(0, 0);
        x.attach(1, 0);
        x.guard(0, 0, 1, 2);
        x.guard(0, 0, 3, 0);
        x.guard(1, 0, 1, 1);
        x.guard(1, 0, 2, 0);
        return x;
    }

    private static void carryTakesTheFirst() {
        check.part("8: The first frame on the wire of an end leaves it and arrives at the other"
                + " end");
        FlowFabric x = pipe();
        for (int k = 0; k < 6; k++) {
            x.send(0, 1, 50 + k);
        }
        for (int k = 0; k < 6; k++) {
            check.due("carry", x.carry(0, 2), true);
            check.due("the first", x.taken(1, 1), 50 + k);
            check.due("it left", x.waiting(0, 2), 5 - k);
        }
        check.due("at its port", x.hits(1, 1), 6);
        x.send(0, 1, 60);
        x.turn(1, 1, false);
        check.due("down: it is lost", x.carry(0, 2), false);
    }

    private static void carryAtNoEnd() {
        check.part("8: false if the port is no end");
        FlowFabric x = pipe();
        x.send(0, 1, 5);
        x.send(1, 0, 6);
        int[][] wrong = {
            {-1, 2}, {2, 1}, {LEAST, 2}, {MOST, 2}, {0, -1}, {0, 4}, {0, LEAST}, {0, MOST},
            {0, 0}, {0, 1}, {0, 3}, {1, 0}, {1, 2}, {1, -2}, {0, 5}, {1 << 30, 2}, {-1, 6},
        };
        for (int[] row : wrong) {
            check.due("carry(" + row[0] + ", " + row[1] + ")", x.carry(row[0], row[1]), false);
        }
        check.due("both frames are there", x.waiting(0, 2) + x.waiting(1, 1), 2);
    }

    private static void carryOfAnEmptyWire() {
        check.part("8: false if ... its wire is empty");
        FlowFabric x = pipe();
        check.due("at first", x.carry(0, 2), false);
        x.send(0, 1, 5);
        check.due("the other end's is empty", x.carry(1, 1), false);
        check.due("with one", x.carry(0, 2), true);
        check.due("with none again", x.carry(0, 2), false);
        check.due("one came", x.taken(1, 0), 1);
    }

    private static void obeyTakesTheFirst() {
        check.part("9: A switch carries out its first order, which leaves the list before that:"
                + " the order's code");
        FlowFabric x = Nets.star(2, 4, 9);
        x.probe();
        x.send(0, 2, 5);
        x.send(0, 1, 6);
        x.report(0);
        x.report(0);
        int[] codes = {5, 3, 0, 2};
        for (int k = 0; k < codes.length; k++) {
            check.due("orders", x.waiting(0, 4), codes.length - k);
            check.due("order " + k, x.obey(0), codes[k]);
        }
        check.due("no more", x.obey(0), -1);
        x.report(0);
        check.due("GO", x.obey(0), 4);
        x.guard(0, 0, 0, 6);
        x.send(0, 1, 7);
        x.report(0);
        check.due("CUT", x.obey(0), 1);
    }

    private static void obeyWithoutTheSwitchOrOrders() {
        check.part("9: NONE if there is no such switch, or it has none");
        FlowFabric x = new FlowFabric(3, 4, 4);
        x.probe();
        int[] wrong = {-1, 3, LEAST, MOST};
        for (int node : wrong) {
            check.due("obey(" + node + ")", x.obey(node), -1);
        }
        for (int node = 0; node < 3; node++) {
            check.due("with one", x.obey(node), 5);
            check.due("with none", x.obey(node), -1);
        }
    }

    private static void reportTakesTheFirst() {
        check.part("10: The first report of a switch leaves its list and comes to the controller:"
                + " its code");
        FlowFabric x = Nets.row(2, 1, 1);
        x.attach(0, 0);
        x.attach(0, 1);
        x.attach(1, 0);
        x.send(1, 2, 1);
        check.due("MISS", x.report(0), 0);
        x.probe();
        x.obey(1);
        x.obey(1);
        x.carry(1, 1);
        x.carry(1, 1);
        x.turn(0, 2, false);
        int[] codes = {0, 1, 5, -1};
        for (int k = 0; k < codes.length; k++) {
            check.due("reports", x.waiting(0, 5), Math.max(0, 3 - k));
            check.due("report " + k, x.report(0), codes[k]);
        }
        FlowFabric y = Nets.star(3, 1, 1);
        y.send(0, 1, 5);
        y.send(0, 2, 6);
        y.report(0);
        y.report(0);
        Nets.obeyAll(y, 1);
        y.tick();
        int[] more = {2, 3, 2, 4, -1};
        for (int code : more) {
            check.due("in their order", y.report(0), code);
        }
    }

    private static void reportWithoutTheSwitchOrReports() {
        check.part("10: NONE if there is no such switch, or it has none");
        FlowFabric x = new FlowFabric(3, 4, 4);
        for (int host = 0; host < 3; host++) {
            x.attach(host, 0);
        }
        for (int host = 0; host < 3; host++) {
            x.send(host, (host + 1) % 3, 5);
        }
        int[] wrong = {-1, 3, LEAST, MOST};
        for (int node : wrong) {
            check.due("report(" + node + ")", x.report(node), -1);
        }
        for (int node = 0; node < 3; node++) {
            check.due("with one", x.report(node), 0);
            check.due("with none", x.report(node), -1);
        }
    }

    private static void probeOrdersEachSwitch() {
        check.part("11: Each switch gets a PROBES: true");
        for (int s = 2; s <= 5; s++) {
            FlowFabric x = new FlowFabric(s, 4, 4);
            check.due("probe()", x.probe(), true);
            for (int node = 0; node < s; node++) {
                check.due("one order", x.waiting(node, 4), 1);
                check.due("PROBES", x.obey(node), 5);
            }
        }
    }

    private static void probeWithSixteenOrders() {
        check.part("11: false if one of them has sixteen orders or more");
        for (int full = 0; full < 3; full++) {
            FlowFabric x = new FlowFabric(3, 4, 4);
            for (int k = 0; k < 16; k++) {
                check.due("with " + k, x.probe(), true);
            }
            check.due("with sixteen each", x.probe(), false);
            for (int node = 0; node < 3; node++) {
                if (node != full) {
                    x.obey(node);
                }
            }
            check.due("with sixteen at " + full, x.probe(), false);
            for (int node = 0; node < 3; node++) {
                check.due("none got one", x.waiting(node, 4), node == full ? 16 : 15);
            }
            x.obey(full);
            check.due("with fifteen each", x.probe(), true);
        }
        FlowFabric x = Nets.star(2, 4, 9);
        for (int k = 0; k < 15; k++) {
            x.probe();
        }
        x.send(0, 1, 5);
        x.report(0);
        check.due("seventeen", x.waiting(0, 4), 17);
        check.due("with seventeen", x.probe(), false);
        x.obey(0);
        check.due("with sixteen", x.probe(), false);
        x.obey(0);
        check.due("with fifteen", x.probe(), true);
    }

    private static void tickOfUnusedRules() {
        check.part("12: each of its rules that was used last IDLE ticks ago or more (never used)");
        for (int idle = 1; idle <= 9; idle++) {
            FlowFabric x = ruled(idle);
            for (int tick = 1; tick < idle; tick++) {
                check.due("idle " + idle + ", tick " + tick, x.tick(), 0);
                check.due("there", x.rule(0, 0, 1, 0), 1);
            }
            check.due("idle " + idle + ", the last tick", x.tick(), 1);
            check.due("gone", x.rule(0, 0, 1, 0), -1);
            check.due("once", x.tick(), 0);
        }
    }

    private static void tickOfUsedRules() {
        check.part("12: each of its rules that was used last IDLE ticks ago or more (used)");
        for (int idle = 2; idle <= 9; idle++) {
            FlowFabric x = ruled(idle);
            for (int tick = 1; tick < idle; tick++) {
                x.tick();
            }
            x.send(0, 1, 6);
            for (int tick = 1; tick < idle; tick++) {
                check.due("idle " + idle + ", since then " + tick, x.tick(), 0);
            }
            check.due("idle " + idle + ", the last tick", x.tick(), 1);
        }
    }

    private static void tickOfOldRules() {
        check.part("12: or made 4 * IDLE ticks ago or more");
        for (int idle = 2; idle <= 9; idle++) {
            for (int made = 0; made <= 5; made += 5) {
                FlowFabric x = Nets.star(2, 4, idle);
                for (int tick = 0; tick < made; tick++) {
                    x.tick();
                }
                x.send(0, 1, 5);
                x.report(0);
                x.obey(0);
                String name = "idle " + idle + ", made at " + made;
                for (int tick = 1; tick < 4 * idle; tick++) {
                    x.send(0, 1, 6);
                    check.due(name + ", tick " + tick, x.tick(), 0);
                }
                x.send(0, 1, 7);
                check.due(name + ", the last tick", x.tick(), 1);
            }
        }
    }

    private static void tickInTheOrderOfTheRules() {
        check.part("12: for each switch, the least first, each of its rules, in their order");
        FlowFabric x = Nets.star(4, 8, 2);
        int[][] pairs = {{2, 1}, {0, 3}, {1, 0}, {3, 2}};
        for (int[] pair : pairs) {
            x.send(pair[0], pair[1], 5);
        }
        Nets.settle(x, 1, 2);
        Nets.obeyAll(x, 1);
        x.tick();
        x.send(0, 3, 6);
        check.due("all but the used one", x.tick(), 3);
        check.due("it is the first now", x.rule(0, 0, 3, 2), 0);
        int[][] gone = {{2, 1}, {1, 0}, {3, 2}};
        for (int k = 0; k < gone.length; k++) {
            check.due("laid before its GONE", x.course(gone[k][0], gone[k][1], -1), 3);
            check.due("GONE", x.report(0), 4);
            check.due("clearing after it", x.course(gone[k][0], gone[k][1], -1), 1);
        }
        check.due("no more", x.report(0), -1);
    }

    private static void tickHoweverManyReports() {
        check.part("12: the switch adds a GONE (the pair) to its reports, however many it has");
        int[] counts = {0, 1, 7, 8, 19, 20};
        for (int count : counts) {
            FlowFabric x = Nets.laidRow(2, 4, 1);
            for (int k = 0; k < count; k++) {
                x.turn(0, 2, false);
                x.turn(0, 2, true);
            }
            check.due("reports", x.waiting(1, 5), count);
            check.due("tick", x.tick(), 2);
            check.due("one more than " + count, x.waiting(0, 5), count + 1);
            check.due("one more than " + count, x.waiting(1, 5), count + 1);
            for (int k = 0; k < count; k++) {
                check.due("DOWN", x.report(0), 5);
            }
            check.due("GONE, at the end", x.report(0), 4);
        }
    }

    private static void tickAnswersHowMany() {
        check.part("12: How many rules that were");
        check.due("none", new FlowFabric(2, 4, 4).tick(), 0);
        for (int length = 2; length <= 5; length++) {
            FlowFabric x = Nets.laidRow(length, 4, 1);
            check.due("one at each of " + length, x.tick(), length);
            check.due("none any more", x.tick(), 0);
        }
        FlowFabric x = Nets.star(4, 8, 1);
        int[][] pairs = {{0, 1}, {1, 0}, {2, 3}, {3, 2}, {0, 2}, {2, 0}};
        for (int[] pair : pairs) {
            x.send(pair[0], pair[1], 5);
        }
        Nets.reportAll(x, 1);
        Nets.obeyAll(x, 1);
        check.due("six at one switch", x.tick(), 6);
    }

    private static void waitingOfEachKind() {
        check.part("13: How many frames are on the wire of a switch's port (what 0 .. 3), how many"
                + " orders (4) or reports (5) it has");
        FlowFabric x = new FlowFabric(5, 4, 4);
        for (int port = 0; port < 4; port++) {
            x.link(0, port, port + 1, 3 - port);
        }
        for (int k = 0; k < 7; k++) {
            x.probe();
        }
        for (int k = 1; k <= 7; k++) {
            x.obey(0);
            for (int port = 0; port < 4; port++) {
                check.due("frames at " + port, x.waiting(0, port), Math.min(k, 6));
            }
            check.due("orders", x.waiting(0, 4), 7 - k);
        }
        x.obey(4);
        for (int port = 0; port < 4; port++) {
            check.due("frames of the last switch", x.waiting(4, port), port == 0 ? 1 : 0);
        }
        check.due("orders of the last switch", x.waiting(4, 4), 6);
        x.carry(4, 0);
        check.due("reports", x.waiting(0, 5), 1);
        x.carry(0, 3);
        check.due("reports of the last switch", x.waiting(4, 5), 1);
        check.due("reports of another one", x.waiting(1, 5), 0);
    }

    private static void waitingAtNoEnd() {
        check.part("13: 0 if that is no end");
        FlowFabric x = Nets.row(2, 4, 4);
        x.attach(0, 0);
        x.probe();
        Nets.obeyAll(x, 2);
        check.due("a host's port", x.waiting(0, 0), 0);
        check.due("a free port", x.waiting(0, 3), 0);
        check.due("an end", x.waiting(0, 2), 1);
    }

    private static void waitingWithoutTheSwitchOrKind() {
        check.part("13: NONE if there is no such switch or what");
        FlowFabric x = Nets.row(2, 4, 4);
        int[] nodes = {-1, 2, LEAST, MOST, 1 << 30};
        for (int node : nodes) {
            for (int what = 0; what < 6; what++) {
                check.due("waiting(" + node + ", " + what + ")", x.waiting(node, what), -1);
            }
        }
        int[] whats = {-1, 6, 7, LEAST, MOST};
        for (int what : whats) {
            check.due("waiting(0, " + what + ")", x.waiting(0, what), -1);
            check.due("waiting(1, " + what + ")", x.waiting(1, what), -1);
        }
    }

    private static void ruleOfEachKind() {
        check.part("14: its port (what 0), its uses (1), its place among the rules, from 0 (2)");
        FlowFabric x = Nets.star(4, 8, 9);
        int[][] pairs = {{3, 0}, {0, 3}, {1, 2}, {2, 1}, {3, 1}, {1, 3}};
        for (int[] pair : pairs) {
            x.send(pair[0], pair[1], 5);
            x.report(0);
        }
        for (int k = 0; k < pairs.length; k++) {
            x.obey(0);
            check.due("no uses", x.rule(0, pairs[k][0], pairs[k][1], 1), 0);
            check.due("the last place", x.rule(0, pairs[k][0], pairs[k][1], 2), k);
            x.obey(0);
        }
        for (int k = 0; k < pairs.length; k++) {
            for (int use = 0; use < k; use++) {
                x.send(pairs[k][0], pairs[k][1], 6);
            }
            check.due("port", x.rule(0, pairs[k][0], pairs[k][1], 0), pairs[k][1]);
            check.due("uses", x.rule(0, pairs[k][0], pairs[k][1], 1), k);
            check.due("place", x.rule(0, pairs[k][0], pairs[k][1], 2), k);
        }
    }

    private static void ruleWithoutTheSwitchOrRule() {
        check.part("14: NONE if there is no such switch or rule, or what is none of these");
        FlowFabric x = Nets.laidRow(2, 4, 9);
        int[] nodes = {-1, 2, LEAST, MOST};
        for (int node : nodes) {
            for (int what = 0; what < 3; what++) {
                check.due("switch " + node, x.rule(node, 0, 1, what), -1);
            }
        }
        int[][] pairs = {
            {1, 0}, {0, 2}, {2, 1}, {0, 0}, {-1, 1}, {0, -1}, {0, 6}, {LEAST, MOST}, {-1, 7},
            {1, -5}, {-1, 9}, {1, -7},
        };
        for (int[] pair : pairs) {
            for (int what = 0; what < 3; what++) {
                check.due("pair " + pair[0] + ", " + pair[1], x.rule(0, pair[0], pair[1], what), -1);
            }
        }
        int[] whats = {-1, 3, LEAST, MOST};
        for (int what : whats) {
            check.due("what " + what, x.rule(0, 0, 1, what), -1);
        }
        check.due("the last switch has it", x.rule(1, 0, 1, 0), 0);
    }

    private static void hitsOfEachGuard() {
        check.part("15: The hits of guard k of a switch; NONE if there is no such switch or guard");
        FlowFabric x = fourGuards();
        for (int k = 0; k < 4; k++) {
            check.due("guard " + k, x.hits(0, k), 4 - k);
        }
        check.due("none at the last switch", x.hits(1, 0), -1);
        x.guard(1, 0, 0, 0);
        check.due("no hits yet", x.hits(1, 0), 0);
        int[][] wrong = {
            {-1, 0}, {2, 0}, {LEAST, 0}, {MOST, 0}, {0, -1}, {0, 4}, {0, LEAST}, {0, MOST}, {1, 1},
            {1, -1}, {-1, 4}, {2, -1}, {1 << 30, 0},
        };
        for (int[] row : wrong) {
            check.due("hits(" + row[0] + ", " + row[1] + ")", x.hits(row[0], row[1]), -1);
        }
    }

    private static void takenOfEachKind() {
        check.part("16: how many (what 0), the number of the latest one (1), the host that it is"
                + " from (2)");
        FlowFabric x = new FlowFabric(2, 4, 4);
        for (int host = 0; host < 4; host++) {
            x.attach(0, host);
        }
        x.guard(0, 0, 0, 3);
        int[][] sends = {{2, 7}, {0, 0}, {1, -5}, {0, MOST}};
        for (int k = 0; k < sends.length; k++) {
            x.send(sends[k][0], 3, sends[k][1]);
            check.due("how many", x.taken(3, 0), k + 1);
            check.due("the number", x.taken(3, 1), sends[k][1]);
            check.due("from", x.taken(3, 2), sends[k][0]);
        }
        check.due("another host took none", x.taken(0, 0), 0);
    }

    private static void takenIfThereWasNone() {
        check.part("16: 0 for 1 and -1 for 2 if there was none");
        FlowFabric x = new FlowFabric(2, 4, 4);
        for (int host = 0; host < 6; host++) {
            x.attach(host / 4, host % 4);
            check.due("how many", x.taken(host, 0), 0);
            check.due("the number", x.taken(host, 1), 0);
            check.due("from", x.taken(host, 2), -1);
        }
    }

    private static void takenWithoutTheHostOrKind() {
        check.part("16: NONE if there is no such host or what");
        FlowFabric x = new FlowFabric(2, 4, 4);
        for (int count = 0; count < 6; count++) {
            for (int what = 0; what < 3; what++) {
                check.due(count + " hosts", x.taken(count, what), -1);
                check.due("host -1", x.taken(-1, what), -1);
            }
            x.attach(count / 4, count % 4);
        }
        int[] hosts = {6, 7, LEAST, MOST};
        for (int host : hosts) {
            check.due("host " + host, x.taken(host, 1), -1);
        }
        int[] whats = {-1, 3, LEAST, MOST};
        for (int what : whats) {
            for (int host = 0; host < 6; host++) {
                check.due("what " + what + " of " + host, x.taken(host, what), -1);
            }
        }
    }

    private static void knownOfEachEnd() {
        check.part("17: 4 * switch + port of the other end of a switch's port, as the controller"
                + " knows it; NONE if it knows none");
        FlowFabric x = new FlowFabric(5, 4, 4);
        x.link(0, 0, 4, 3);
        x.link(0, 3, 4, 0);
        x.probe();
        x.obey(0);
        check.due("none before the report", x.known(0, 0), -1);
        x.carry(0, 0);
        x.report(4);
        check.due("the first end", x.known(0, 0), 19);
        check.due("the last end", x.known(4, 3), 0);
        check.due("the other link is not known", x.known(0, 3), -1);
        check.due("a free port", x.known(0, 1), -1);
        x.carry(0, 3);
        x.report(4);
        check.due("now it is", x.known(0, 3), 16);
        x.turn(0, 0, false);
        check.due("as the controller knows it", x.known(0, 0), 19);
        x.report(0);
        check.due("none again", x.known(0, 0), -1);
        check.due("none again", x.known(4, 3), -1);
        check.due("the other link is known still", x.known(4, 0), 3);
    }

    private static void knownWithoutThePort() {
        check.part("17: NONE if ... there is no such switch or port");
        FlowFabric x = new FlowFabric(2, 4, 4);
        for (int port = 0; port < 4; port++) {
            x.link(0, port, 1, port);
        }
        Nets.learn(x, 2);
        check.due("the first port", x.known(0, 0), 4);
        check.due("the last port", x.known(1, 3), 3);
        int[][] wrong = {
            {-1, 0}, {2, 0}, {-1, 4}, {2, -1}, {0, -1}, {0, 4}, {1, -1}, {1, 4}, {LEAST, 0},
            {MOST, 0}, {0, LEAST}, {0, MOST}, {1 << 30, 0},
        };
        for (int[] row : wrong) {
            check.due("known(" + row[0] + ", " + row[1] + ")", x.known(row[0], row[1]), -1);
        }
    }

    private static void placeOfEachHost() {
        check.part("18: 4 * switch + port of a host's place, as the controller knows it; NONE if"
                + " it knows none");
        FlowFabric x = new FlowFabric(5, 4, 4);
        int[][] ports = {{0, 0}, {4, 3}, {0, 3}, {4, 0}, {2, 1}, {3, 2}};
        for (int[] port : ports) {
            x.attach(port[0], port[1]);
        }
        for (int host = 0; host < 6; host++) {
            check.due("not known", x.place(host), -1);
            x.send(host, (host + 1) % 6, 5);
            check.due("not before the report", x.place(host), -1);
            x.report(ports[host][0]);
            check.due("known", x.place(host), 4 * ports[host][0] + ports[host][1]);
        }
    }

    private static void placeWithoutTheHost() {
        check.part("18: NONE if ... there is no such host");
        FlowFabric x = new FlowFabric(2, 4, 4);
        int[] wrong = {-1, 6, 7, LEAST, MOST};
        for (int count = 0; count <= 6; count++) {
            for (int host : wrong) {
                check.due("place(" + host + ")", x.place(host), -1);
            }
            check.due(count + " hosts", x.place(count), -1);
            x.attach(count / 4, count % 4);
        }
    }

    private static void courseOfEachKind() {
        check.part("19: for k from 0 on, the k-th switch of its way; for k = -1 its state");
        for (int length = 2; length <= 5; length++) {
            FlowFabric x = Nets.learnedRow(length, 4, 1);
            x.send(0, 1, 5);
            x.report(0);
            check.due("laying", x.course(0, 1, -1), 2);
            Nets.settle(x, length, length);
            check.due("laid", x.course(0, 1, -1), 3);
            Nets.obeyAll(x, length);
            x.tick();
            Nets.reportAll(x, length);
            check.due("clearing", x.course(0, 1, -1), 1);
            for (int k = 0; k < length; k++) {
                check.due("switch " + k, x.course(0, 1, k), k);
            }
            check.due("behind the last", x.course(0, 1, length), -1);
            check.due("far behind the last", x.course(0, 1, MOST), -1);
            check.due("below -2", x.course(0, 1, -3), -1);
            check.due("far below -2", x.course(0, 1, LEAST), -1);
            Nets.obeyAll(x, length);
            Nets.reportAll(x, length);
            check.due("gone", x.course(0, 1, -1), -1);
            check.due("its way is gone, too", x.course(0, 1, 0), -1);
        }
    }

    private static void courseKeepsNothing() {
        check.part("19: for k = -2 the number of the datagram that it keeps, 0 if none (as of one"
                + " with the number 0)");
        int[] numbers = {5, 0, -1, -2, LEAST, MOST};
        for (int number : numbers) {
            FlowFabric x = Nets.star(2, 4, 9);
            x.send(0, 1, number);
            x.report(0);
            check.due("it keeps", x.course(0, 1, -2), number);
            Nets.settle(x, 1, 1);
            check.due("it keeps none", x.course(0, 1, -2), 0);
            check.due("laid", x.course(0, 1, -1), 3);
        }
    }

    private static void courseWithoutTheCourseOrKind() {
        check.part("19: NONE if there is no such course, or none of these");
        FlowFabric x = Nets.laidRow(3, 4, 9);
        int[][] pairs = {
            {1, 0}, {0, 2}, {2, 1}, {0, 0}, {1, 1}, {-1, 1}, {0, -1}, {-1, -1}, {0, 3}, {6, 0},
            {0, 6}, {LEAST, 0}, {0, MOST}, {-1, 7}, {1, -5}, {-1, 9}, {1, -7},
        };
        for (int[] pair : pairs) {
            for (int k = -3; k < 3; k++) {
                check.due("course(" + pair[0] + ", " + pair[1] + ", " + k + ")",
                        x.course(pair[0], pair[1], k), -1);
            }
        }
        int[] wrong = {-3, 3, LEAST, MOST};
        for (int k : wrong) {
            check.due("course(0, 1, " + k + ")", x.course(0, 1, k), -1);
        }
        check.due("course(0, 1, 2)", x.course(0, 1, 2), 2);
    }
}
