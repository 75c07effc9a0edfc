/**
 * The sentences of "Terms" that name an edge of the switches' side: ports, hosts, wires, guards,
 * rules, lists. One test for each sentence, named by the sentence.
 */
public final class TermsEdgeTest {
    private static final Check check = new Check();

    private TermsEdgeTest() {}

    public static void main(String[] args) {
        switchesAndPorts();
        hostsAtMostSix();
        linkIsUpAtFirst();
        nowCountsFromZero();
        hostTakesItsOwnAlone();
        sixOnAWireByAVerdict();
        sixOnAWireByARule();
        sixOnAWireByAnOut();
        sixOnAWireByAGo();
        sixOnAWireByProbes();
        eachEndHasItsWire();
        otherwiseLost();
        fourGuards();
        guardsStandInTheirOrder();
        matchNumbers();
        matchParts();
        greatestPriority();
        ofSeveralTheOneMadeFirst();
        fiveIfThereIsNone();
        verdictsAtTheirEdges();
        roomRules();
        ruleOfThePairAlone();
        ruleIsUsedLastNow();
        missNamesThePort();
        missByAGoNamesFour();
        eighthMissWithoutARule();
        eighthMissByVerdictSix();
        eighthMissByAGo();
        eighthSeen();
        otherReportsComeBehindEight();
        sixteenthOut();
        sixteenOfOneSwitch();
        otherOrdersComeBehindSixteen();
        putIsANewRule();
        cutOfNoRule();
        cutOfOneRuleAlone();
        outAtTheLeastAndTheGreatestPort();
        probesOfAllEndsOrNone();
        emptyLists();
        check.end();
    }

    private static void switchesAndPorts() {
        check.part("SWITCHES are 0 .. S - 1, each with the PORTS 0 .. 3");
        for (int s = 2; s <= 5; s++) {
            FlowFabric x = new FlowFabric(s, 4, 4);
            check.due("behind the last switch", x.attach(s, 0), -1);
            check.due("ahead of the first one", x.attach(-1, 3), -1);
            check.due("behind the last port, 1:0 is free", x.attach(0, 4), -1);
            check.due("ahead of the first port, 0:3 is free", x.attach(1, -1), -1);
            check.due("the first port of the first switch", x.attach(0, 0), 0);
            check.due("the last port of the first switch", x.attach(0, 3), 1);
            check.due("the first port of the last switch", x.attach(s - 1, 0), 2);
            check.due("the last port of the last switch", x.attach(s - 1, 3), 3);
            check.due("a link of the last switch", x.link(0, 1, s - 1, 1), true);
            check.due("a link of one behind it", x.link(0, 2, s, 2), false);
            check.due("the last switch has reports", x.waiting(s - 1, 5), 0);
            check.due("one behind it has none", x.waiting(s, 5), -1);
        }
    }

    private static void hostsAtMostSix() {
        check.part("Hosts are numbered 0, 1, .. as they are attached, at most 6");
        FlowFabric x = new FlowFabric(2, 4, 4);
        int[][] ports = {{1, 3}, {0, 2}, {1, 0}, {0, 0}, {0, 1}, {0, 3}};
        for (int host = 0; host < 6; host++) {
            check.due("not there yet: " + host, x.taken(host, 0), -1);
            check.due("host " + host, x.attach(ports[host][0], ports[host][1]), host);
            check.due("there now: " + host, x.taken(host, 0), 0);
        }
        check.due("a seventh", x.attach(1, 1), -2);
        check.due("a seventh elsewhere", x.attach(1, 2), -2);
        check.due("there is no host 6", x.taken(6, 0), -1);
        x.guard(0, 0, 0, 3);
        check.due("to the sixth", x.send(1, 5, 8), true);
        check.due("the sixth takes", x.taken(5, 1), 8);
        x.guard(0, 9, 4, 2);
        check.due("from the sixth", x.send(5, 1, 9), true);
        check.due("of the sixth", x.taken(1, 2), 5);
        check.due("to a seventh", x.send(0, 6, 8), false);
        check.due("from a seventh", x.send(6, 0, 8), false);
    }

    private static void linkIsUpAtFirst() {
        check.part("A link is up (at first) or down");
        FlowFabric x = Nets.row(2, 4, 4);
        check.due("it is up already", x.turn(0, 2, true), false);
        check.due("at the other end, too", x.turn(1, 1, true), false);
        x.probe();
        x.obey(0);
        check.due("it holds frames", x.waiting(0, 2), 1);
    }

    private static void nowCountsFromZero() {
        check.part("NOW counts ticks, from 0 on");
        for (int before = 0; before <= 2; before++) {
            FlowFabric x = Nets.star(2, 4, 3);
            for (int k = 0; k < before; k++) {
                x.tick();
            }
            x.send(0, 1, 5);
            x.report(0);
            x.obey(0);
            check.due("made at " + before + ", one tick ago", x.tick(), 0);
            check.due("made at " + before + ", two ticks ago", x.tick(), 0);
            check.due("made at " + before + ", three ticks ago", x.tick(), 1);
        }
    }

    private static void hostTakesItsOwnAlone() {
        check.part("if the port has a host and the frame is a datagram for that host,"
                + " the host TAKES it");
        FlowFabric x = new FlowFabric(2, 4, 4);
        x.attach(0, 0);
        x.attach(0, 1);
        x.attach(1, 0);
        x.guard(0, 0, 0, 1);
        x.send(0, 1, 7);
        check.due("for that host", x.taken(1, 0), 1);
        x.send(0, 2, 8);
        check.due("for another host", x.taken(1, 0), 1);
        check.due("that one takes nothing either", x.taken(2, 0), 0);
        x.send(1, 0, 9);
        check.due("from that host", x.taken(1, 0), 1);
        check.due("nothing is missed", x.waiting(0, 5), 0);
        check.due("a host's port has no wire", x.waiting(0, 1), 0);
    }

    /** A learned row of two with a guard that sends what host 2 sends to the wire of 0:2. */
    private static FlowFabric feed(int frames) {
        FlowFabric x = Nets.learnedRow(2, 4, 9);
        return fed(x, frames);
    }

    private static FlowFabric fed(FlowFabric x, int frames) {
        x.guard(0, 9, 4, 2);
        for (int k = 0; k < frames; k++) {
            x.send(2, 1, 100 + k);
        }
        return x;
    }

    private static void sixOnAWireByAVerdict() {
        check.part("comes to the end of this end's WIRE, unless six frames are on it (a verdict)");
        FlowFabric x = feed(5);
        check.due("five", x.waiting(0, 2), 5);
        check.due("the sixth", x.send(2, 1, 105), true);
        check.due("six", x.waiting(0, 2), 6);
        check.due("the seventh", x.send(2, 1, 106), true);
        check.due("it is lost", x.waiting(0, 2), 6);
        x.carry(0, 2);
        x.send(2, 1, 107);
        check.due("room for one again", x.waiting(0, 2), 6);
        x.guard(1, 9, 0, 0);
        for (int k = 1; k <= 5; k++) {
            x.carry(0, 2);
            check.due("in their order", x.taken(1, 1), 100 + k);
        }
        x.carry(0, 2);
        check.due("the last one stands at the end", x.taken(1, 1), 107);
        check.due("the lost one never comes", x.carry(0, 2), false);
    }

    private static void sixOnAWireByARule() {
        check.part("comes to the end of this end's WIRE, unless six frames are on it (a rule)");
        FlowFabric x = Nets.laidRow(2, 4, 9);
        for (int k = 2; k <= 8; k++) {
            x.send(0, 1, k);
            check.due("frames", x.waiting(0, 2), k < 6 ? k : 6);
            check.due("a use all the same", x.rule(0, 0, 1, 1), k);
        }
        check.due("nothing is missed", x.waiting(0, 5), 0);
    }

    private static void sixOnAWireByAnOut() {
        check.part("comes to the end of this end's WIRE, unless six frames are on it (an OUT)");
        int[][] cases = {{4, 5}, {5, 6}, {6, 6}};
        for (int[] row : cases) {
            FlowFabric x = Nets.row(2, 4, 9);
            x.attach(0, 0);
            x.attach(1, 0);
            x.attach(0, 3);
            fed(x, row[0]);
            x.send(0, 1, 5);
            x.report(0);
            check.due("OUT", x.obey(0), 3);
            check.due("with " + row[0] + " frames", x.waiting(0, 2), row[1]);
        }
    }

    private static void sixOnAWireByAGo() {
        check.part("comes to the end of this end's WIRE, unless six frames are on it (a GO)");
        int[][] cases = {{4, 5}, {5, 6}, {6, 6}};
        for (int[] row : cases) {
            FlowFabric x = Nets.learnedRow(2, 4, 9);
            x.send(0, 1, 5);
            x.report(0);
            x.obey(1);
            x.obey(1);
            x.report(1);
            x.obey(0);
            x.obey(0);
            x.report(0);
            fed(x, row[0]);
            check.due("GO", x.obey(0), 4);
            check.due("with " + row[0] + " frames", x.waiting(0, 2), row[1]);
            check.due("the rule is used", x.rule(0, 0, 1, 1), 1);
            check.due("nothing is missed", x.waiting(0, 5), 0);
        }
    }

    private static void sixOnAWireByProbes() {
        check.part("comes to the end of this end's WIRE, unless six frames are on it (PROBES)");
        FlowFabric x = Nets.row(2, 4, 9);
        for (int k = 1; k <= 8; k++) {
            x.probe();
            x.obey(0);
            check.due("frames", x.waiting(0, 2), k < 6 ? k : 6);
        }
        for (int k = 1; k <= 6; k++) {
            check.due("carry", x.carry(0, 2), true);
        }
        check.due("no seventh", x.carry(0, 2), false);
    }

    private static void eachEndHasItsWire() {
        check.part("the frame comes to the end of this end's WIRE");
        FlowFabric x = feed(6);
        x.guard(1, 9, 1, 1);
        x.send(1, 0, 5);
        check.due("six on the other end's wire do not count", x.waiting(1, 1), 1);
        check.due("nor does this one there", x.waiting(0, 2), 6);
    }

    private static void otherwiseLost() {
        check.part("otherwise it is lost");
        FlowFabric x = Nets.row(2, 4, 9);
        x.attach(0, 0);
        x.attach(1, 0);
        x.guard(0, 0, 0, 2);
        x.turn(1, 1, false);
        int reports = x.waiting(0, 5);
        x.send(0, 1, 5);
        check.due("at an end that is down", x.waiting(0, 2), 0);
        x.turn(1, 1, true);
        check.due("it does not come back", x.waiting(0, 2), 0);
        x.send(0, 1, 6);
        check.due("at an end that is up again", x.waiting(0, 2), 1);
        x.unguard(0, 0);
        x.guard(0, 0, 0, 3);
        x.send(0, 1, 7);
        check.due("at a free port", x.waiting(0, 3), 0);
        x.link(0, 3, 1, 3);
        check.due("it does not come back", x.waiting(0, 3), 0);
        check.due("none of them is missed", x.waiting(0, 5), reports);
    }

    private static void fourGuards() {
        check.part("at most four");
        FlowFabric x = new FlowFabric(2, 4, 4);
        for (int k = 0; k < 4; k++) {
            check.due("guard " + k, x.guard(0, 0, 0, 4), k);
        }
        check.due("a fifth", x.guard(0, 0, 0, 4), -2);
        check.due("another switch has its own", x.guard(1, 0, 0, 4), 0);
        x.unguard(0, 3);
        check.due("a fourth again", x.guard(0, 0, 0, 4), 3);
        check.due("a fifth again", x.guard(0, 0, 0, 4), -2);
    }

    private static void guardsStandInTheirOrder() {
        check.part("in the order in which they were made");
        FlowFabric x = new FlowFabric(2, 4, 4);
        for (int port = 0; port < 4; port++) {
            x.attach(0, port);
        }
        int[] priorities = {3, 9, 0, 5};
        for (int port = 0; port < 4; port++) {
            x.guard(0, priorities[port], 1 + port, 4);
        }
        for (int port = 0; port < 4; port++) {
            for (int k = 0; k <= port; k++) {
                x.send(port, (port + 1) % 4, 1);
            }
        }
        for (int k = 0; k < 4; k++) {
            check.due("guard " + k, x.hits(0, k), k + 1);
        }
    }

    /** Whether the words of the document allow it: each part is 0 or 1 + what there may be. */
    private static boolean isMatch(int match) {
        return match >= 0 && match <= 511 && match % 8 <= 4 && match / 8 % 8 <= 6
                && match / 64 <= 6;
    }

    private static void matchNumbers() {
        check.part("A match is a number whose lowest three bits are 0 or 1 + a port,"
                + " whose next three bits are 0 or 1 + the number of a host");
        FlowFabric x = new FlowFabric(2, 4, 4);
        int allowed = 0;
        for (int match = -70; match < 700; match++) {
            if (match % 100 == 0) {
                x = new FlowFabric(2, 4, 4);
            }
            check.due("match " + match, x.guard(0, 0, match, 4), isMatch(match) ? 0 : -1);
            allowed += x.unguard(0, 0) == 0 ? 1 : 0;
        }
        check.due("how many there are", allowed, 5 * 7 * 7);
    }

    /** The port of switch 0 where what a host of the hub sends comes in. */
    private static final int[] HUB_PORTS = {0, 1, 2, 3, 0, 1};

    /** Switch 0 joined to four others, which have six hosts and send all they get to switch 0. */
    private static FlowFabric hub() {
        FlowFabric x = new FlowFabric(5, 4, 4);
        for (int port = 0; port < 4; port++) {
            x.link(0, port, port + 1, 0);
            x.guard(port + 1, 0, 0, 0);
        }
        for (int host = 0; host < 6; host++) {
            x.attach(HUB_PORTS[host] + 1, host < 4 ? 1 : 2);
        }
        return x;
    }

    private static void matchParts() {
        check.part("it matches a datagram that comes in at that port (0: at any), from the first"
                + " host (0: from any), to the second one (0: to any)");
        for (int match = 0; match < 512; match++) {
            if (isMatch(match)) {
                matchPartsOf(match);
            }
        }
    }

    private static void matchPartsOf(int match) {
        FlowFabric x = hub();
        x.guard(0, 0, match, 4);
        int hits = 0;
        for (int from = 0; from < 6; from++) {
            for (int to = 0; to < 6; to++) {
                if (from == to) {
                    continue;
                }
                int port = HUB_PORTS[from];
                boolean matches = (match % 8 == 0 || match % 8 == 1 + port)
                        && (match / 8 % 8 == 0 || match / 8 % 8 == 1 + from)
                        && (match / 64 == 0 || match / 64 == 1 + to);
                hits += matches ? 1 : 0;
                x.send(from, to, 1);
                x.carry(port + 1, 0);
                check.due("match " + match + ", from " + from + " to " + to, x.hits(0, 0), hits);
            }
        }
    }

    /** Host 0 at 0:0 sends to host 1 at 0:1; guards of these priorities lose it. */
    private static FlowFabric guarded(int... priorities) {
        FlowFabric x = new FlowFabric(2, 4, 4);
        x.attach(0, 0);
        x.attach(0, 1);
        for (int priority : priorities) {
            x.guard(0, priority, 0, 4);
        }
        x.send(0, 1, 5);
        return x;
    }

    private static void hitsAre(FlowFabric x, int... hits) {
        for (int k = 0; k < hits.length; k++) {
            check.due("guard " + k, x.hits(0, k), hits[k]);
        }
        check.due("no more guards", x.hits(0, hits.length), -1);
    }

    private static void greatestPriority() {
        check.part("of the guards that match it the one with the greatest priority");
        hitsAre(guarded(0), 1);
        hitsAre(guarded(9), 1);
        hitsAre(guarded(0, 9), 0, 1);
        hitsAre(guarded(9, 0), 1, 0);
        hitsAre(guarded(8, 9, 8, 0), 0, 1, 0, 0);
        hitsAre(guarded(0, 1, 2, 3), 0, 0, 0, 1);
        FlowFabric x = new FlowFabric(2, 4, 4);
        x.attach(0, 0);
        x.attach(0, 1);
        x.guard(0, 0, 0, 4);
        x.guard(0, 9, 2, 4);
        x.send(0, 1, 5);
        check.due("a greater one that does not match", x.hits(0, 1), 0);
        check.due("the least that matches", x.hits(0, 0), 1);
    }

    private static void ofSeveralTheOneMadeFirst() {
        check.part("(of several the one made first)");
        hitsAre(guarded(9, 9), 1, 0);
        hitsAre(guarded(0, 0, 0, 0), 1, 0, 0, 0);
        hitsAre(guarded(1, 5, 5, 5), 0, 1, 0, 0);
        FlowFabric x = guarded(5, 5);
        x.unguard(0, 0);
        x.guard(0, 5, 0, 4);
        x.send(0, 1, 6);
        hitsAre(x, 1, 0);
    }

    private static void fiveIfThereIsNone() {
        check.part("5 if there is none");
        FlowFabric x = Nets.laidRow(2, 4, 9);
        x.send(0, 1, 5);
        check.due("no guard at all: it comes to the rules", x.rule(0, 0, 1, 1), 2);
        x.guard(0, 9, 2, 4);
        x.send(0, 1, 6);
        check.due("none that matches: it comes to the rules", x.rule(0, 0, 1, 1), 3);
        check.due("no hit", x.hits(0, 0), 0);
        x.guard(0, 0, 1, 4);
        x.send(0, 1, 7);
        check.due("one that matches", x.rule(0, 0, 1, 1), 3);
    }

    private static void verdictsAtTheirEdges() {
        check.part("0 .. 3: the datagram is sent out at that port; 4: it is lost; 5: it COMES TO"
                + " THE RULES; 6: it is MISSED");
        int[][] cases = {{0, 1, 0, 0}, {3, 0, 1, 0}, {4, 0, 0, 0}, {5, 0, 1, 0}, {6, 0, 0, 1}};
        for (int[] row : cases) {
            FlowFabric x = new FlowFabric(2, 4, 9);
            x.attach(0, 0);
            x.attach(0, 3);
            x.attach(0, 1);
            x.attach(1, 0);
            for (int host = 0; host < 3; host++) {
                x.send(host, 3, 1);
                x.report(0);
            }
            Nets.obeyAll(x, 2);
            x.send(2, 1, 2);
            Nets.settle(x, 2, 2);
            Nets.obeyAll(x, 2);
            x.guard(0, 0, 2, row[0]);
            x.send(2, row[0] == 0 ? 0 : 1, 5);
            String verdict = "verdict " + row[0];
            check.due(verdict + ": at port 0", x.taken(0, 1) == 5, row[1] == 1);
            check.due(verdict + ": at port 3", x.taken(1, 1) == 5, row[2] == 1);
            check.due(verdict + ": uses", x.rule(0, 2, 1, 1), row[0] == 5 ? 2 : 1);
            check.due(verdict + ": reports", x.waiting(0, 5), row[3]);
            check.due(verdict + ": a hit", x.hits(0, 0), 1);
        }
    }

    private static final int[][] SIX_PAIRS = {{0, 1}, {1, 0}, {2, 3}, {3, 2}, {0, 2}, {2, 0}};

    private static void roomRules() {
        check.part("RULES are its second table: at most ROOM; PUT: if it has no rule of the pair"
                + " and ROOM rules, it adds a NOROOM");
        for (int room = 1; room <= 8; room++) {
            FlowFabric x = Nets.star(4, room, 9);
            for (int k = 0; k < 6; k++) {
                int from = SIX_PAIRS[k][0];
                int to = SIX_PAIRS[k][1];
                x.send(from, to, 5);
                x.report(0);
                check.due("PUT", x.obey(0), 0);
                check.due("room " + room + ": the place of rule " + k,
                        x.rule(0, from, to, 2), k < room ? k : -1);
                check.due("room " + room + ": a NOROOM", x.waiting(0, 5), k < room ? 0 : 1);
                check.due("BARRIER", x.obey(0), 2);
                check.due("room " + room + ": report", x.report(0), k < room ? 2 : 3);
                Nets.obeyAll(x, 1);
                Nets.reportAll(x, 1);
            }
            for (int k = 0; k < 6; k++) {
                check.due("room " + room + ": still there",
                        x.rule(0, SIX_PAIRS[k][0], SIX_PAIRS[k][1], 2), k < room ? k : -1);
            }
        }
    }

    private static void ruleOfThePairAlone() {
        check.part("if there is one of its pair, that has one use more; else it is missed");
        FlowFabric x = Nets.star(3, 4, 9);
        x.send(0, 1, 5);
        Nets.settle(x, 2, 2);
        Nets.obeyAll(x, 2);
        check.due("the rule", x.rule(0, 0, 1, 1), 1);
        int[][] others = {{1, 0}, {0, 2}, {2, 1}};
        for (int k = 0; k < others.length; k++) {
            x.send(others[k][0], others[k][1], 6);
            check.due("of another pair", x.rule(0, 0, 1, 1), 1);
            check.due("it is missed", x.waiting(0, 5), k + 1);
        }
        x.send(0, 1, 7);
        check.due("of its pair", x.rule(0, 0, 1, 1), 2);
        check.due("it is not missed", x.waiting(0, 5), 3);
    }

    private static void ruleIsUsedLastNow() {
        check.part("was used last NOW");
        for (int byGo = 0; byGo < 2; byGo++) {
            FlowFabric x = Nets.star(2, 4, 3);
            x.send(0, 1, 5);
            x.report(0);
            x.obey(0);
            x.obey(0);
            x.report(0);
            x.tick();
            x.tick();
            if (byGo == 1) {
                check.due("GO", x.obey(0), 4);
            } else {
                x.send(0, 1, 6);
            }
            String name = byGo == 1 ? "used by a GO" : "used";
            check.due(name, x.rule(0, 0, 1, 1), 1);
            check.due(name + " one tick ago", x.tick(), 0);
            check.due(name + " two ticks ago", x.tick(), 0);
            check.due(name + " three ticks ago", x.tick(), 1);
        }
    }

    private static void missNamesThePort() {
        check.part("A missed datagram becomes a MISS with the port where it came in");
        for (int verdict = 5; verdict <= 6; verdict++) {
            for (int port = 0; port < 4; port++) {
                FlowFabric x = new FlowFabric(3, 4, 4);
                x.attach(2, port);
                x.attach(1, 0);
                x.guard(2, 0, 0, verdict);
                x.send(0, 1, 5);
                check.due("MISS", x.report(2), 0);
                check.due("port " + port, x.place(0), 8 + port);
            }
        }
    }

    /**
     * Hosts 0 and 1 at one switch, whose course is laid and whose GO meets no rule any more; host
     * 0 has been seen at a port of the other switch since.
     */
    private static FlowFabric missedGo(int node) {
        int other = 1 - node;
        FlowFabric x = new FlowFabric(2, 4, 1);
        x.attach(node, 0);
        x.attach(node, 1);
        x.attach(other, 0);
        x.send(1, 2, 1);
        x.report(node);
        x.obey(node);
        x.link(node, 3, other, 3);
        x.send(0, 1, 5);
        x.report(node);
        x.obey(node);
        x.obey(node);
        x.report(node);
        x.tick();
        x.guard(node, 0, 0, 3);
        x.send(0, 2, 6);
        x.carry(node, 3);
        x.report(other);
        return x;
    }

    private static void missByAGoNamesFour() {
        check.part("(4 if it came to the rules by a GO); if the port is not 4 and not MARKED");
        for (int node = 0; node < 2; node++) {
            FlowFabric x = missedGo(node);
            int elsewhere = 4 * (1 - node) + 3;
            check.due("seen elsewhere", x.place(0), elsewhere);
            check.due("GO", x.obey(node), 4);
            check.due("GONE", x.report(node), 4);
            check.due("MISS", x.report(node), 0);
            check.due("4 is no place", x.place(0), elsewhere);
            check.due("nor another host's", x.place(2), -1);
            check.due("its course keeps it", x.course(0, 1, -2), 5);
        }
    }

    /** Hosts 0 and 1 at switch 0, host 2 unknown; so many reports of switch 0 are MISSes. */
    private static FlowFabric reports(int count) {
        FlowFabric x = Nets.star(2, 4, 9);
        for (int k = 0; k < count; k++) {
            x.send(0, 2, 50 + k);
        }
        return x;
    }

    /** As many DOWNs of switch 0 as asked for; its end 0:2 is up, and host 0 is at 0:0. */
    private static FlowFabric downs(int count) {
        FlowFabric x = Nets.row(2, 4, 9);
        x.attach(0, 0);
        x.attach(1, 0);
        for (int k = 0; k < count; k++) {
            x.turn(0, 2, false);
            x.turn(0, 2, true);
            x.report(1);
        }
        return x;
    }

    private static void eighthMissWithoutARule() {
        check.part("A MISS is lost if eight reports or more are there (without a rule)");
        int[][] cases = {{0, 1}, {6, 7}, {7, 8}, {8, 8}, {9, 9}, {12, 12}, {19, 19}};
        for (int[] row : cases) {
            FlowFabric x = downs(row[0]);
            check.due("send", x.send(0, 1, 5), true);
            check.due("with " + row[0], x.waiting(0, 5), row[1]);
        }
        FlowFabric x = reports(8);
        x.send(0, 2, 70);
        x.report(0);
        x.send(0, 2, 71);
        check.due("the eighth again", x.waiting(0, 5), 8);
    }

    private static void eighthMissByVerdictSix() {
        check.part("A MISS is lost if eight reports or more are there (by verdict 6)");
        int[][] cases = {{7, 8}, {8, 8}, {9, 9}};
        for (int[] row : cases) {
            FlowFabric x = downs(row[0]);
            x.guard(0, 0, 0, 6);
            x.send(0, 1, 5);
            check.due("with " + row[0], x.waiting(0, 5), row[1]);
            check.due("the guard is hit all the same", x.hits(0, 0), 1);
        }
    }

    private static void eighthMissByAGo() {
        check.part("A MISS is lost if eight reports or more are there (by a GO)");
        int[][] cases = {{1, 2}, {7, 8}, {8, 8}};
        for (int[] row : cases) {
            FlowFabric x = Nets.star(2, 4, 1);
            x.send(0, 1, 5);
            x.report(0);
            x.obey(0);
            x.obey(0);
            x.report(0);
            check.due("the rule is gone", x.tick(), 1);
            for (int k = 1; k < row[0]; k++) {
                x.send(0, 2, 50 + k);
            }
            check.due("GO", x.obey(0), 4);
            check.due("with " + row[0], x.waiting(0, 5), row[1]);
        }
    }

    private static void eighthSeen() {
        check.part("A SEEN is lost if eight reports or more are there");
        int[][] cases = {{0, 1}, {6, 7}, {7, 8}, {8, 8}, {9, 9}, {19, 19}};
        for (int[] row : cases) {
            FlowFabric x = downs(row[0]);
            x.probe();
            x.obey(1);
            check.due("the probe leaves the wire", x.carry(1, 1), true);
            check.due("it has left", x.waiting(1, 1), 0);
            check.due("with " + row[0], x.waiting(0, 5), row[1]);
            for (int k = 0; k < row[0]; k++) {
                x.report(0);
            }
            check.due("the report behind them", x.report(0), row[0] < 8 ? 1 : -1);
            check.due("known(1, 1)", x.known(1, 1), row[0] < 8 ? 2 : -1);
        }
    }

    private static void otherReportsComeBehindEight() {
        check.part("A MISS and a SEEN are lost if eight reports or more are there (no others)");
        FlowFabric x = Nets.star(4, 1, 9);
        x.send(0, 1, 5);
        Nets.settle(x, 2, 2);
        Nets.obeyAll(x, 2);
        x.send(0, 2, 6);
        x.report(0);
        for (int k = 0; k < 9; k++) {
            x.send(1, 4, 50 + k);
        }
        check.due("eight", x.waiting(0, 5), 8);
        check.due("PUT", x.obey(0), 0);
        check.due("a NOROOM", x.waiting(0, 5), 9);
        check.due("BARRIER", x.obey(0), 2);
        check.due("a DONE", x.waiting(0, 5), 10);
        for (int k = 1; k < 9; k++) {
            check.due("tick " + k, x.tick(), 0);
        }
        check.due("tick 9", x.tick(), 1);
        check.due("a GONE", x.waiting(0, 5), 11);
        FlowFabric y = downs(8);
        y.turn(0, 2, false);
        check.due("a DOWN", y.waiting(0, 5), 9);
        int[] codes = {0, 0, 0, 0, 0, 0, 0, 0, 3, 2, 4, -1};
        for (int code : codes) {
            check.due("in their order", x.report(0), code);
        }
    }

    /** So many PROBES at both switches; host 0 at 0:0 and host 1 at 1:0 are not known. */
    private static FlowFabric orders(int count) {
        FlowFabric x = new FlowFabric(2, 4, 9);
        x.attach(0, 0);
        x.attach(1, 0);
        for (int k = 0; k < count; k++) {
            x.probe();
        }
        return x;
    }

    private static void sixteenthOut() {
        check.part("an OUT if sixteen orders or more are");
        int[][] cases = {{0, 1}, {14, 15}, {15, 16}, {16, 16}};
        for (int[] row : cases) {
            FlowFabric x = orders(row[0]);
            x.send(0, 1, 5);
            check.due("MISS", x.report(0), 0);
            check.due("with " + row[0], x.waiting(0, 4), row[1]);
            check.due("with " + row[0], x.waiting(1, 4), row[1]);
            Nets.obeyAll(x, 2);
            check.due("taken", x.taken(1, 0), row[0] < 16 ? 1 : 0);
            check.due("the place is learned all the same", x.place(0), 0);
        }
        FlowFabric x = Nets.star(2, 4, 9);
        for (int k = 0; k < 16; k++) {
            x.probe();
        }
        x.send(0, 1, 5);
        x.report(0);
        check.due("more than sixteen", x.waiting(0, 4), 18);
        x.send(0, 2, 6);
        x.report(0);
        check.due("lost with eighteen", x.waiting(0, 4), 18);
        x.obey(0);
        x.send(0, 2, 7);
        x.report(0);
        check.due("lost with seventeen", x.waiting(0, 4), 17);
    }

    private static void sixteenOfOneSwitch() {
        check.part("an OUT if sixteen orders or more are (each switch by itself)");
        for (int open = 0; open < 2; open++) {
            FlowFabric x = orders(16);
            x.obey(open);
            x.send(0, 1, 5);
            x.report(0);
            check.due("the open one gets it", x.waiting(open, 4), 16);
            check.due("the other one does not", x.waiting(1 - open, 4), 16);
            Nets.obeyAll(x, 2);
            check.due("taken", x.taken(1, 0), open);
        }
    }

    private static void otherOrdersComeBehindSixteen() {
        check.part("an OUT if sixteen orders or more are (no others)");
        FlowFabric x = Nets.star(2, 4, 9);
        for (int k = 0; k < 16; k++) {
            x.probe();
        }
        x.send(0, 1, 5);
        x.report(0);
        check.due("PUT and BARRIER", x.waiting(0, 4), 18);
        for (int k = 0; k < 18; k++) {
            x.obey(0);
        }
        Nets.obeyAll(x, 2);
        for (int k = 0; k < 16; k++) {
            x.probe();
        }
        check.due("DONE", x.report(0), 2);
        check.due("a GO", x.waiting(0, 4), 17);
        x.guard(0, 0, 0, 6);
        x.send(0, 1, 6);
        check.due("MISS", x.report(0), 0);
        check.due("CUT and BARRIER", x.waiting(0, 4), 19);
        for (int k = 0; k < 16; k++) {
            x.obey(0);
        }
        check.due("GO", x.obey(0), 4);
        check.due("CUT", x.obey(0), 1);
        check.due("BARRIER", x.obey(0), 2);
    }

    private static void putIsANewRule() {
        check.part("else it has, for the pair, a new rule, without uses, made and used last NOW,"
                + " behind the others (an older one is gone)");
        FlowFabric x = Nets.star(3, 2, 3);
        x.send(0, 1, 5);
        x.send(0, 2, 6);
        Nets.settle(x, 2, 2);
        Nets.obeyAll(x, 2);
        check.due("the first of two", x.rule(0, 0, 1, 2), 0);
        check.due("used", x.rule(0, 0, 1, 1), 1);
        x.tick();
        x.tick();
        x.guard(0, 0, 128, 6);
        x.send(0, 1, 7);
        x.report(0);
        check.due("CUT", x.obey(0), 1);
        check.due("BARRIER", x.obey(0), 2);
        check.due("DONE", x.report(0), 2);
        check.due("PUT, with one rule there and room for two", x.obey(0), 0);
        check.due("behind the other one", x.rule(0, 0, 1, 2), 1);
        check.due("the other one is the first", x.rule(0, 0, 2, 2), 0);
        check.due("without uses", x.rule(0, 0, 1, 1), 0);
        check.due("the other one is gone by now", x.tick(), 1);
        check.due("this one is not", x.rule(0, 0, 1, 2), 0);
        check.due("two ticks old", x.tick(), 0);
        check.due("three ticks old", x.tick(), 1);
    }

    private static void cutOfNoRule() {
        check.part("the rule of the pair, if there is one, is gone");
        FlowFabric x = Nets.star(3, 4, 1);
        x.send(0, 1, 5);
        Nets.settle(x, 2, 2);
        check.due("its rule is gone already", x.tick(), 1);
        x.send(0, 2, 6);
        check.due("GONE", x.report(0), 4);
        check.due("MISS", x.report(0), 0);
        check.due("GO", x.obey(0), 4);
        check.due("CUT of no rule", x.obey(0), 1);
        check.due("BARRIER", x.obey(0), 2);
        check.due("PUT", x.obey(0), 0);
        check.due("the rule of another pair", x.rule(0, 0, 2, 2), 0);
    }

    private static void cutOfOneRuleAlone() {
        check.part("CUT (a pair): the rule of the pair");
        int[][] pairs = {{0, 1}, {1, 0}, {0, 2}};
        for (int cut = 0; cut < 3; cut++) {
            FlowFabric x = Nets.star(3, 4, 9);
            for (int[] pair : pairs) {
                x.send(pair[0], pair[1], 5);
            }
            Nets.settle(x, 1, 2);
            Nets.obeyAll(x, 1);
            x.guard(0, 0, 8 * (1 + pairs[cut][0]) + 64 * (1 + pairs[cut][1]), 6);
            x.send(pairs[cut][0], pairs[cut][1], 6);
            x.report(0);
            check.due("CUT", x.obey(0), 1);
            for (int k = 0; k < 3; k++) {
                int from = pairs[k][0];
                int to = pairs[k][1];
                String name = "without rule " + cut + ", rule " + k;
                check.due(name, x.rule(0, from, to, 0), k == cut ? -1 : to);
                check.due(name + ": uses", x.rule(0, from, to, 1), k == cut ? -1 : 1);
                check.due(name + ": place", x.rule(0, from, to, 2),
                        k == cut ? -1 : k < cut ? k : k - 1);
            }
        }
    }

    private static void outAtTheLeastAndTheGreatestPort() {
        check.part("OUT (ports, a datagram): the datagram is sent out at each of the ports");
        FlowFabric x = new FlowFabric(5, 4, 4);
        for (int port = 0; port < 4; port++) {
            x.link(0, port, port + 1, 0);
        }
        x.attach(1, 1);
        x.attach(1, 2);
        x.send(0, 1, 5);
        x.report(1);
        check.due("OUT", x.obey(0), 3);
        for (int port = 0; port < 4; port++) {
            check.due("at port " + port, x.waiting(0, port), 1);
        }
        check.due("OUT", x.obey(1), 3);
        check.due("at port 0", x.waiting(1, 0), 1);
        check.due("taken at port 2", x.taken(1, 1), 5);
        check.due("not taken at port 1", x.taken(0, 0), 0);
    }

    private static void probesOfAllEndsOrNone() {
        check.part("PROBES: a probe is sent out at each port that is an end of a link");
        FlowFabric x = new FlowFabric(5, 4, 4);
        for (int port = 0; port < 4; port++) {
            x.link(0, port, port + 1, 3);
        }
        x.attach(1, 0);
        x.probe();
        check.due("PROBES", x.obey(0), 5);
        for (int port = 0; port < 4; port++) {
            check.due("all four ends: " + port, x.waiting(0, port), 1);
            check.due("carry", x.carry(0, port), true);
            check.due("SEEN", x.report(port + 1), 1);
            check.due("where it was sent out", x.known(port + 1, 3), port);
            check.due("where it came in", x.known(0, port), 4 * (port + 1) + 3);
        }
        FlowFabric y = new FlowFabric(2, 4, 4);
        y.attach(0, 0);
        y.probe();
        check.due("PROBES without an end", y.obey(0), 5);
        for (int what = 0; what < 6; what++) {
            check.due("nothing waits: " + what, y.waiting(0, what), 0);
        }
    }

    private static void emptyLists() {
        check.part("what is added comes to the end (a list that is empty, too)");
        FlowFabric x = Nets.star(2, 4, 9);
        check.due("no orders", x.obey(0), -1);
        check.due("no reports", x.report(0), -1);
        x.send(0, 1, 5);
        check.due("the only report", x.report(0), 0);
        check.due("no reports again", x.report(0), -1);
        check.due("the first order", x.obey(0), 0);
        check.due("the last order", x.obey(0), 2);
        check.due("no orders again", x.obey(0), -1);
        check.due("the only report", x.report(0), 2);
    }
}
