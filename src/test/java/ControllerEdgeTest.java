/**
 * The sentences of "Terms" that name an edge of the controller's side: courses, ways, and what
 * each report does. One test for each sentence, named by the sentence.
 */
public final class ControllerEdgeTest {
    private static final Check check = new Check();

    private ControllerEdgeTest() {}

    public static void main(String[] args) {
        sixCourses();
        clearingCoursesCount();
        onePairOneCourse();
        wayNeedsTheFirstPlace();
        wayNeedsTheSecondPlace();
        wayNeedsKnownEnds();
        wayNeedsEveryLink();
        wayOverALinkThatIsDown();
        wayOfOneToFive();
        wayWithTheFewestSwitches();
        wayLeastAtTheFirstDifference();
        wayByTheLeastPort();
        wayEndsWithThePortOfThePlace();
        clearingWaitsForEachSwitch();
        layingTakesTheWayOfNow();
        layingIsLedFromTheLastToTheFirst();
        placeOfEachPort();
        noPlaceAtMarkedPorts();
        placeOfAHostWithACourse();
        placeChangesNothingElse();
        keptInThePlaceOfAnother();
        laidAloneIsCleared();
        outOnlyIfThePlaceIsNotKnown();
        outAtFreePorts();
        outNotAtMarkedPorts();
        outNotAtThatPort();
        outUnlessNoPortIsLeft();
        otherwiseNothing();
        seenMarksForEver();
        seenTakesPlaces();
        seenTakesThePlacesOfAll();
        seenClearsLayingAndLaid();
        seenLeavesWhatLeadsOver();
        seenLeavesTheClearing();
        seenClearsInTheirOrder();
        seenClearsAllSix();
        doneOfNoCourse();
        doneOfOneCourseAlone();
        doneOfTheLastSwitch();
        doneWithAndWithoutADatagram();
        doneWithAndWithoutAWay();
        doneOfADatagramWithNumberZero();
        noRoomOfALayingCourse();
        noRoomOfAClearingCourse();
        goneOfEachState();
        downOfAnUnknownEnd();
        downOfAStaleEnd();
        downClearsWhatLeadsOut();
        downClearsInTheirOrder();
        downClearsAllSix();
        check.end();
    }

    private static final int[][] PAIRS = {
        {0, 1}, {0, 2}, {0, 3}, {1, 0}, {1, 2}, {1, 3}, {2, 0}, {2, 1},
    };

    /** Four hosts at one switch, whose first so many pairs have a course that is being laid. */
    private static FlowFabric courses(int count) {
        FlowFabric x = Nets.star(4, 8, 1);
        for (int k = 0; k < count; k++) {
            x.send(PAIRS[k][0], PAIRS[k][1], 50 + k);
            x.report(0);
        }
        return x;
    }

    private static int stateOf(FlowFabric x, int pair) {
        return x.course(PAIRS[pair][0], PAIRS[pair][1], -1);
    }

    private static void sixCourses() {
        check.part("has at most six COURSES; if there are less than six courses");
        for (int count = 0; count <= 7; count++) {
            FlowFabric x = courses(count);
            int made = Math.min(count, 6);
            check.due(count + ": orders", x.waiting(0, 4), 2 * made);
            x.send(PAIRS[count][0], PAIRS[count][1], 90);
            check.due(count + ": MISS", x.report(0), 0);
            check.due(count + ": one more", stateOf(x, count), count < 6 ? 2 : -1);
            check.due(count + ": orders", x.waiting(0, 4), 2 * Math.min(count + 1, 6));
            for (int k = 0; k < made; k++) {
                check.due(count + ": course " + k + " stays", stateOf(x, k), 2);
            }
        }
    }

    private static void clearingCoursesCount() {
        check.part("has at most six COURSES (CLEARING ones, too)");
        FlowFabric x = courses(6);
        Nets.settle(x, 1, 1);
        Nets.obeyAll(x, 1);
        check.due("all six rules are gone", x.tick(), 6);
        Nets.reportAll(x, 1);
        for (int k = 0; k < 6; k++) {
            check.due("clearing", stateOf(x, k), 1);
        }
        x.send(PAIRS[6][0], PAIRS[6][1], 90);
        x.report(0);
        check.due("no seventh", stateOf(x, 6), -1);
        x.obey(0);
        x.obey(0);
        check.due("DONE", x.report(0), 2);
        check.due("the first one is gone", stateOf(x, 0), -1);
        x.send(PAIRS[6][0], PAIRS[6][1], 91);
        x.send(PAIRS[7][0], PAIRS[7][1], 92);
        x.report(0);
        x.report(0);
        check.due("a sixth again", stateOf(x, 6), 2);
        check.due("no seventh again", stateOf(x, 7), -1);
    }

    private static void onePairOneCourse() {
        check.part("each of a pair of hosts (from, to) that no other one has");
        FlowFabric x = courses(1);
        x.send(0, 1, 60);
        x.report(0);
        check.due("no second one of the pair", x.waiting(0, 4), 2);
        x.send(1, 0, 61);
        x.report(0);
        check.due("the pair turned round is another one", x.course(1, 0, -1), 2);
        check.due("its datagram", x.course(1, 0, -2), 61);
        check.due("the first one's datagram", x.course(0, 1, -2), 60);
        for (int k = 1; k < 6; k++) {
            if (k != 3) {
                x.send(PAIRS[k][0], PAIRS[k][1], 50 + k);
                x.report(0);
            }
            check.due("six pairs fit", stateOf(x, k), 2);
        }
    }

    /**
     * A link 0:2 to 1:1 that no probe has crossed. Host 0 (at 0:0) is taken to be at 1:1, by what
     * a guard sends over, host 1 is known at 1:0, host 2 (at 1:3) is not known. Nothing waits.
     */
    private static FlowFabric falsePlace() {
        FlowFabric x = Nets.row(2, 8, 9);
        x.attach(0, 0);
        x.attach(1, 0);
        x.attach(1, 3);
        x.guard(0, 0, 1, 2);
        x.send(0, 2, 1);
        x.carry(0, 2);
        x.report(1);
        x.send(1, 2, 2);
        x.report(1);
        Nets.obeyAll(x, 2);
        x.turn(0, 2, false);
        x.turn(0, 2, true);
        Nets.reportAll(x, 2);
        return x;
    }

    private static void wayNeedsTheFirstPlace() {
        check.part("A WAY from a host to another one is there if both places are known (the first)");
        FlowFabric x = falsePlace();
        x.send(0, 1, 5);
        x.carry(0, 2);
        check.due("MISS", x.report(1), 0);
        check.due("a course while it is known", x.course(0, 1, -1), 2);
        x.obey(1);
        x.obey(1);
        x.report(1);
        check.due("laid", x.course(0, 1, -1), 3);
        x.obey(1);
        x.probe();
        x.obey(0);
        x.carry(0, 2);
        check.due("SEEN", x.report(1), 1);
        check.due("the first place is not known", x.place(0), -1);
        check.due("the second one is", x.place(1), 4);
        check.due("the course ends elsewhere", x.course(0, 1, -1), 3);
        x.guard(1, 0, 0, 6);
        x.send(0, 1, 6);
        x.carry(0, 2);
        check.due("MISS at a marked port", x.report(1), 0);
        check.due("clearing", x.course(0, 1, -1), 1);
        check.due("it keeps a datagram", x.course(0, 1, -2), 6);
        Nets.obeyAll(x, 2);
        check.due("DONE", x.report(1), 2);
        check.due("gone", x.course(0, 1, -1), -1);
        x.send(0, 1, 7);
        x.carry(0, 2);
        check.due("MISS at a marked port", x.report(1), 0);
        check.due("no new one", x.course(0, 1, -1), -1);
        check.due("no order", x.waiting(0, 4) + x.waiting(1, 4), 0);
    }

    private static void wayNeedsTheSecondPlace() {
        check.part("A WAY from a host to another one is there if both places are known"
                + " (the second)");
        FlowFabric x = falsePlace();
        x.send(1, 0, 5);
        x.report(1);
        check.due("a course while it is known", x.course(1, 0, -1), 2);
        x.probe();
        x.obey(0);
        x.carry(0, 2);
        check.due("SEEN", x.report(1), 1);
        check.due("the second place is not known", x.place(0), -1);
        check.due("the first one is", x.place(1), 4);
        check.due("clearing", x.course(1, 0, -1), 1);
        check.due("it keeps a datagram", x.course(1, 0, -2), 5);
        Nets.obeyAll(x, 2);
        check.due("DONE of the laying", x.report(1), 2);
        check.due("DONE of the clearing", x.report(1), 2);
        check.due("gone", x.course(1, 0, -1), -1);
    }

    private static void wayNeedsKnownEnds() {
        check.part("can be come to from that of the first one over ends whose other ends are known");
        FlowFabric x = Nets.row(2, 4, 9);
        x.attach(0, 0);
        x.attach(1, 0);
        x.attach(1, 3);
        x.send(1, 2, 1);
        x.report(1);
        x.send(0, 1, 5);
        check.due("MISS", x.report(0), 0);
        check.due("a link that is not known", x.course(0, 1, -1), -1);
        check.due("both places are", x.place(0) == 0 && x.place(1) == 4, true);
        x.probe();
        Nets.obeyAll(x, 2);
        x.guard(1, 0, 2, 4);
        for (int k = 0; k < 6; k++) {
            x.carry(0, 2);
        }
        check.due("SEEN", x.report(1), 1);
        x.send(0, 1, 6);
        check.due("MISS", x.report(0), 0);
        check.due("a link that is known", x.course(0, 1, -1), 2);
    }

    private static void wayNeedsEveryLink() {
        check.part("can be come to from that of the first one over ends whose other ends are known"
                + " (each one)");
        for (int missing = 0; missing < 4; missing++) {
            FlowFabric x = Nets.learnedRow(5, 4, 9);
            x.turn(missing, 2, false);
            check.due("DOWN", x.report(missing + 1), 5);
            x.send(0, 1, 5);
            if (missing == 0) {
                check.due("DOWN", x.report(0), 5);
            }
            Nets.reportAll(x, 1);
            check.due("without the link behind switch " + missing, x.course(0, 1, -1), -1);
            check.due("no order", x.waiting(0, 4) + x.waiting(4, 4), 0);
        }
        FlowFabric x = Nets.learnedRow(5, 4, 9);
        x.send(0, 1, 5);
        x.report(0);
        check.due("with all of them", x.course(0, 1, -1), 2);
    }

    private static void wayOverALinkThatIsDown() {
        check.part("over ends whose other ends are known (a link that is down, too)");
        FlowFabric x = Nets.learnedRow(2, 4, 9);
        x.send(0, 1, 5);
        x.turn(0, 2, false);
        check.due("MISS, ahead of the DOWN", x.report(0), 0);
        check.due("it is known still", x.course(0, 1, -1), 2);
        check.due("DOWN", x.report(0), 5);
        check.due("not any more", x.course(0, 1, -1), 1);
    }

    private static void wayOfOneToFive() {
        check.part("a row of switches, the first that of the first place, the last that of the"
                + " second one");
        for (int length = 1; length <= 5; length++) {
            FlowFabric x = new FlowFabric(5, 4, 9);
            for (int node = 0; node < 4; node++) {
                x.link(node, 2, node + 1, 1);
            }
            x.attach(0, 0);
            x.attach(length - 1, 3);
            x.attach(4, 0);
            Nets.learn(x, 5);
            x.send(1, 2, 1);
            x.report(length - 1);
            x.send(0, 1, 5);
            x.report(0);
            for (int k = 0; k < 6; k++) {
                check.due("a way of " + length + ", k = " + k,
                        x.course(0, 1, k), k < length ? k : -1);
            }
            Nets.obeyAll(x, 5);
            for (int node = 0; node < 5; node++) {
                check.due("a way of " + length + ": a rule at the last one alone",
                        x.rule(node, 0, 1, 0), node == length - 1 ? 3 : -1);
            }
        }
    }

    /**
     * Hosts 0 (at port 0 of one switch) and 1 (at port 0, or 3, of another one or the same) of
     * five switches with the links asked for, all known; a course from 0 to 1 is being laid.
     */
    private static FlowFabric joined(int from, int to, int[]... links) {
        FlowFabric x = new FlowFabric(5, 8, 9);
        x.attach(from, 0);
        x.attach(to, to == from ? 3 : 0);
        for (int[] link : links) {
            x.link(link[0], link[1], link[2], link[3]);
        }
        Nets.learn(x, 5);
        x.send(1, 0, 1);
        x.report(to);
        x.send(0, 1, 5);
        x.report(from);
        return x;
    }

    private static void wayIs(String name, FlowFabric x, int... switches) {
        for (int k = 0; k < switches.length; k++) {
            check.due(name + ", switch " + k, x.course(0, 1, k), switches[k]);
        }
        check.due(name + ", no more", x.course(0, 1, switches.length), -1);
    }

    private static void wayWithTheFewestSwitches() {
        check.part("of those with the fewest switches");
        wayIs("two before three", joined(0, 4, new int[][] {
            {0, 1, 1, 1}, {1, 2, 4, 1}, {0, 2, 4, 2},
        }), 0, 4);
        wayIs("three before four", joined(0, 4, new int[][] {
            {0, 1, 1, 1}, {1, 2, 2, 1}, {2, 2, 4, 1}, {0, 2, 3, 1}, {3, 2, 4, 2},
        }), 0, 3, 4);
        wayIs("five, if there is no other one", joined(4, 0, new int[][] {
            {4, 1, 2, 1}, {2, 2, 3, 1}, {3, 2, 1, 1}, {1, 2, 0, 1},
        }), 4, 2, 3, 1, 0);
        wayIs("one, though there is a ring", joined(2, 2, new int[][] {
            {2, 1, 0, 1}, {0, 2, 1, 1}, {1, 2, 2, 2},
        }), 2);
    }

    private static void wayLeastAtTheFirstDifference() {
        check.part("the one that is least at the first difference");
        wayIs("the second switch", joined(0, 4, new int[][] {
            {0, 1, 3, 1}, {0, 2, 2, 1}, {0, 3, 1, 1}, {1, 2, 4, 3}, {2, 2, 4, 2}, {3, 2, 4, 1},
        }), 0, 1, 4);
        wayIs("from the other side", joined(4, 0, new int[][] {
            {0, 1, 3, 1}, {0, 2, 2, 1}, {0, 3, 1, 1}, {1, 2, 4, 3}, {2, 2, 4, 2}, {3, 2, 4, 1},
        }), 4, 1, 0);
        wayIs("the third switch", joined(0, 4, new int[][] {
            {0, 1, 1, 1}, {1, 2, 3, 1}, {1, 3, 2, 1}, {2, 2, 4, 2}, {3, 2, 4, 1},
        }), 0, 1, 2, 4);
        wayIs("the second one before the third", joined(0, 1, new int[][] {
            {0, 1, 4, 1}, {0, 2, 3, 1}, {3, 2, 2, 1}, {4, 2, 2, 2}, {2, 3, 1, 1},
        }), 0, 3, 2, 1);
    }

    private static void wayByTheLeastPort() {
        check.part("each with the port that leads to the next one (the least such port)");
        int[][] cases = {{1, 3, 1}, {3, 1, 1}, {2, 3, 2}, {3, 2, 2}};
        for (int[] row : cases) {
            FlowFabric x = joined(0, 1, new int[][] {
                {0, row[0], 1, 1}, {0, row[1], 1, 3},
            });
            Nets.obeyAll(x, 2);
            x.report(1);
            x.obey(0);
            check.due("of " + row[0] + " and " + row[1], x.rule(0, 0, 1, 0), row[2]);
        }
        FlowFabric x = joined(0, 1, new int[][] {{0, 3, 1, 1}, {0, 1, 2, 1}, {2, 2, 1, 2}});
        Nets.obeyAll(x, 2);
        x.report(1);
        x.obey(0);
        check.due("a lesser one leads elsewhere", x.rule(0, 0, 1, 0), 3);
    }

    private static void wayEndsWithThePortOfThePlace() {
        check.part("the last with the port of the second place");
        for (int port = 0; port < 4; port++) {
            int free = (port + 1) % 4;
            FlowFabric x = new FlowFabric(2, 4, 9);
            x.attach(0, port);
            x.attach(1, port);
            x.link(0, free, 1, free);
            Nets.learn(x, 2);
            x.send(1, 0, 1);
            x.report(1);
            x.send(0, 1, 5);
            x.report(0);
            Nets.obeyAll(x, 2);
            check.due("port " + port, x.rule(1, 0, 1, 0), port);
        }
    }

    private static void clearingWaitsForEachSwitch() {
        check.part("it waits for as many DONEs as there are switches");
        FlowFabric y = Nets.star(2, 4, 1);
        y.send(0, 1, 5);
        Nets.settle(y, 2, 2);
        Nets.obeyAll(y, 2);
        y.tick();
        y.report(0);
        y.obey(0);
        y.obey(0);
        check.due("one switch, no DONE", y.course(0, 1, -1), 1);
        check.due("DONE", y.report(0), 2);
        check.due("one switch, one DONE", y.course(0, 1, -1), -1);

        FlowFabric x = Nets.laidRow(5, 4, 1);
        check.due("all rules are gone", x.tick(), 5);
        check.due("GONE", x.report(3), 4);
        for (int node = 0; node < 5; node++) {
            check.due("CUT and BARRIER for " + node, x.waiting(node, 4), 2);
        }
        Nets.reportAll(x, 5);
        int[] order = {3, 0, 4, 2, 1};
        for (int node : order) {
            check.due("CUT", x.obey(node), 1);
            check.due("BARRIER", x.obey(node), 2);
            check.due("clearing", x.course(0, 1, -1), 1);
            check.due("DONE", x.report(node), 2);
        }
        check.due("five DONEs", x.course(0, 1, -1), -1);
    }

    private static void layingTakesTheWayOfNow() {
        check.part("TO LAY a course: its way is what there is now");
        FlowFabric x = joined(0, 1, new int[][] {{0, 1, 1, 1}, {0, 2, 2, 1}, {2, 2, 1, 2}});
        wayIs("of two", x, 0, 1);
        x.turn(0, 1, false);
        x.report(0);
        check.due("clearing", x.course(0, 1, -1), 1);
        wayIs("still of two", x, 0, 1);
        Nets.obeyAll(x, 3);
        Nets.reportAll(x, 3);
        check.due("laying", x.course(0, 1, -1), 2);
        wayIs("of three", x, 0, 2, 1);
        x.turn(0, 1, true);
        x.turn(2, 2, false);
        x.report(2);
        x.probe();
        Nets.obeyAll(x, 3);
        x.carry(0, 1);
        while (x.waiting(1, 5) > 0) {
            x.report(1);
        }
        check.due("known again", x.known(0, 1), 5);
        wayIs("still of three", x, 0, 2, 1);
        Nets.reportAll(x, 3);
        check.due("laying", x.course(0, 1, -1), 2);
        wayIs("of two again", x, 0, 1);
    }

    private static void layingIsLedFromTheLastToTheFirst() {
        check.part("it is LED to the last switch of its way; else it is led to the switch ahead of"
                + " that one in its way");
        FlowFabric x = Nets.learnedRow(5, 4, 9);
        x.send(0, 1, 5);
        x.report(0);
        for (int node = 4; node >= 0; node--) {
            for (int other = 0; other < 5; other++) {
                check.due("orders of " + other, x.waiting(other, 4), other == node ? 2 : 0);
            }
            check.due("laying", x.course(0, 1, -1), 2);
            check.due("PUT", x.obey(node), 0);
            check.due("BARRIER", x.obey(node), 2);
            check.due("DONE", x.report(node), 2);
        }
        check.due("laid", x.course(0, 1, -1), 3);
        check.due("the GO alone", x.waiting(0, 4), 1);
    }

    private static void placeOfEachPort() {
        check.part("if the port is not 4 and not MARKED, the place of the host that the datagram"
                + " is from becomes s and that port");
        for (int node = 0; node < 5; node += 4) {
            for (int port = 0; port < 4; port++) {
                FlowFabric x = new FlowFabric(5, 4, 4);
                x.attach(2, 0);
                x.attach(node, port);
                x.send(1, 0, 5);
                check.due("not before the report", x.place(1), -1);
                x.report(node);
                check.due("the place", x.place(1), 4 * node + port);
                check.due("not of the host that it is for", x.place(0), -1);
            }
        }
    }

    private static void noPlaceAtMarkedPorts() {
        check.part("if the port is not 4 and not MARKED (both ends of one SEEN)");
        for (int node = 0; node < 2; node++) {
            FlowFabric x = Nets.row(2, 4, 9);
            x.attach(0, 0);
            x.attach(1, 0);
            x.attach(0, 1);
            x.attach(1, 2);
            x.probe();
            x.obey(0);
            x.carry(0, 2);
            check.due("one SEEN", x.report(1), 1);
            int port = node == 0 ? 2 : 1;
            x.guard(1 - node, 0, 1, 3 - port);
            x.send(1 - node, 2 + node, 5);
            x.carry(1 - node, 3 - port);
            check.due("MISS at the marked " + node + ":" + port, x.report(node), 0);
            check.due("no place", x.place(1 - node), -1);
            x.send(2 + 1 - node, 0, 6);
            check.due("MISS", x.report(1 - node), 0);
            check.due("that port of the other switch is not marked",
                    x.place(2 + 1 - node), 4 * (1 - node) + port);
        }
    }

    private static void placeOfAHostWithACourse() {
        check.part("the place of the host that the datagram is from becomes s and that port (there"
                + " is a course of its pair)");
        FlowFabric x = falsePlace();
        x.send(0, 1, 5);
        x.carry(0, 2);
        x.report(1);
        check.due("a course", x.course(0, 1, -1), 2);
        check.due("its first place", x.place(0), 5);
        x.unguard(0, 0);
        x.send(0, 1, 6);
        check.due("MISS", x.report(0), 0);
        check.due("another place", x.place(0), 0);
        check.due("the course keeps it", x.course(0, 1, -2), 6);
        check.due("its way is as before", x.course(0, 1, 0), 1);
    }

    private static void placeChangesNothingElse() {
        check.part("(nothing else changes by that)");
        FlowFabric x = new FlowFabric(2, 4, 9);
        x.link(0, 3, 1, 3);
        x.attach(0, 0);
        x.attach(0, 1);
        x.attach(1, 0);
        x.send(0, 2, 1);
        x.send(1, 2, 2);
        Nets.reportAll(x, 2);
        x.obey(0);
        x.obey(0);
        x.turn(0, 3, false);
        x.turn(0, 3, true);
        Nets.reportAll(x, 2);
        x.send(1, 0, 5);
        Nets.settle(x, 1, 2);
        x.obey(0);
        check.due("a course to host 0 is laid", x.course(1, 0, -1), 3);
        x.guard(0, 0, 1, 3);
        x.send(0, 2, 6);
        x.carry(0, 3);
        int orders = x.waiting(0, 4);
        check.due("MISS", x.report(1), 0);
        check.due("host 0 has another place", x.place(0), 7);
        check.due("the course is laid as before", x.course(1, 0, -1), 3);
        check.due("its way is as before", x.course(1, 0, 0), 0);
        check.due("an OUT is all that is ordered", x.waiting(0, 4), orders + 1);
        check.due("its rule is as before", x.rule(0, 1, 0, 0), 0);
    }

    private static void keptInThePlaceOfAnother() {
        check.part("that keeps the datagram (in the place of one that it kept)");
        FlowFabric x = Nets.star(2, 4, 1);
        int[] numbers = {5, 6, 0, -7, Integer.MIN_VALUE, Integer.MAX_VALUE};
        for (int number : numbers) {
            x.send(0, 1, number);
        }
        for (int number : numbers) {
            x.report(0);
            check.due("laying", x.course(0, 1, -2), number);
        }
        Nets.settle(x, 1, 1);
        check.due("laid", x.course(0, 1, -1), 3);
        check.due("keeps none", x.course(0, 1, -2), 0);
        check.due("one GO", x.waiting(0, 4), 1);
        x.obey(0);
        check.due("of the latest", x.taken(1, 1), Integer.MAX_VALUE);
        x.tick();
        x.report(0);
        check.due("clearing", x.course(0, 1, -1), 1);
        check.due("keeps none", x.course(0, 1, -2), 0);
        x.send(0, 1, 8);
        x.send(0, 1, 9);
        x.report(0);
        check.due("clearing", x.course(0, 1, -2), 8);
        x.report(0);
        check.due("clearing", x.course(0, 1, -2), 9);
        check.due("cleared once", x.waiting(0, 4), 2);
    }

    private static void laidAloneIsCleared() {
        check.part("and if it is LAID, it is cleared");
        FlowFabric x = Nets.star(2, 4, 9);
        x.guard(0, 0, 0, 6);
        x.send(0, 1, 5);
        x.send(0, 1, 6);
        x.report(0);
        x.report(0);
        check.due("a laying one is not", x.course(0, 1, -1), 2);
        check.due("PUT and BARRIER", x.waiting(0, 4), 2);
        Nets.settle(x, 1, 1);
        x.obey(0);
        check.due("laid", x.course(0, 1, -1), 3);
        x.send(0, 1, 7);
        x.report(0);
        check.due("a laid one is", x.course(0, 1, -1), 1);
        check.due("it keeps it", x.course(0, 1, -2), 7);
        check.due("CUT and BARRIER", x.waiting(0, 4), 2);
        x.send(0, 1, 8);
        x.report(0);
        check.due("a clearing one is not", x.waiting(0, 4), 2);
        check.due("it is clearing", x.course(0, 1, -1), 1);
        Nets.settle(x, 1, 1);
        check.due("laid out once more", x.course(0, 1, -1), 2);
    }

    private static void outOnlyIfThePlaceIsNotKnown() {
        check.part("if the place of the host that it is for is not known, each switch, the least"
                + " first, gets an OUT");
        FlowFabric x = new FlowFabric(5, 4, 4);
        x.attach(0, 0);
        x.attach(4, 3);
        x.send(0, 1, 5);
        x.report(0);
        for (int node = 0; node < 5; node++) {
            check.due("not known: an OUT for " + node, x.waiting(node, 4), 1);
        }
        x.send(1, 0, 6);
        x.report(4);
        for (int node = 0; node < 5; node++) {
            check.due("known, without a way: none for " + node, x.waiting(node, 4), 1);
        }
        check.due("no course either", x.course(1, 0, -1), -1);
    }

    private static void outAtFreePorts() {
        check.part("with those of its ports, free ones too");
        FlowFabric x = new FlowFabric(3, 4, 4);
        x.attach(0, 0);
        x.attach(1, 0);
        x.send(0, 1, 5);
        check.due("MISS", x.report(0), 0);
        x.link(0, 1, 1, 1);
        x.link(0, 3, 2, 0);
        x.link(1, 2, 2, 3);
        Nets.obeyAll(x, 3);
        int[][] ends = {{0, 1}, {0, 3}, {1, 1}, {1, 2}, {2, 0}, {2, 3}};
        for (int[] end : ends) {
            check.due("a link since then, at " + end[0] + ":" + end[1],
                    x.waiting(end[0], end[1]), 1);
        }
    }

    private static void outNotAtMarkedPorts() {
        check.part("that are not marked");
        FlowFabric x = Nets.row(3, 4, 4);
        x.attach(0, 0);
        x.attach(2, 0);
        x.probe();
        x.obey(1);
        x.carry(1, 1);
        check.due("SEEN", x.report(0), 1);
        x.send(0, 1, 5);
        check.due("MISS", x.report(0), 0);
        x.carry(1, 2);
        check.due("SEEN, behind the OUTs", x.report(2), 1);
        x.obey(0);
        check.due("PROBES alone, 0:2 was marked", x.waiting(0, 2), 1);
        x.obey(0);
        check.due("PROBES alone, 0:2 was marked", x.waiting(0, 2), 1);
        check.due("OUT", x.obey(1), 3);
        check.due("1:1 was marked", x.waiting(1, 1), 0);
        check.due("1:2 was not when the OUT was made", x.waiting(1, 2), 1);
    }

    private static void outNotAtThatPort() {
        check.part("(and without that port, if it is s)");
        FlowFabric x = new FlowFabric(3, 4, 4);
        x.link(0, 1, 1, 1);
        x.link(1, 2, 2, 1);
        x.attach(0, 0);
        x.attach(2, 0);
        x.guard(0, 0, 1, 1);
        x.send(0, 1, 5);
        x.carry(0, 1);
        check.due("MISS at 1:1", x.report(1), 0);
        Nets.obeyAll(x, 3);
        check.due("not at 1:1", x.waiting(1, 1), 0);
        check.due("at 1:2", x.waiting(1, 2), 1);
        check.due("at 0:1, which is port 1 of another switch", x.waiting(0, 1), 1);
        check.due("at 2:1, too", x.waiting(2, 1), 1);
        check.due("taken", x.taken(1, 1), 5);
    }

    private static void outUnlessNoPortIsLeft() {
        check.part("unless no port is left");
        for (int marked = 2; marked <= 4; marked++) {
            FlowFabric x = new FlowFabric(3, 4, 4);
            x.attach(0, 0);
            x.attach(2, 3);
            for (int port = 1; port < 4; port++) {
                x.link(0, port, 1, port);
            }
            x.link(1, 0, 2, 0);
            x.probe();
            x.obey(1);
            for (int port = 4 - marked; port < 4; port++) {
                x.carry(1, port);
            }
            Nets.reportAll(x, 3);
            Nets.obeyAll(x, 3);
            x.send(0, 1, 5);
            check.due("MISS", x.report(0), 0);
            String name = Math.min(marked, 3) + " of switch 0 are marked";
            check.due(name + ": one but that port is left", x.waiting(0, 4), marked > 2 ? 0 : 1);
            check.due("all four of switch 1 are marked", x.waiting(1, 4), marked == 4 ? 0 : 1);
            check.due("ports of switch 2 are left", x.waiting(2, 4), 1);
        }
    }

    private static void otherwiseNothing() {
        check.part("otherwise nothing");
        FlowFabric x = courses(6);
        x.send(2, 0, 90);
        check.due("MISS, with six courses", x.report(0), 0);
        check.due("no order here", x.waiting(0, 4), 12);
        check.due("nor there", x.waiting(1, 4), 0);
        check.due("no course", x.course(2, 0, -1), -1);
        check.due("its number is kept nowhere", x.course(2, 0, -2), -1);
    }

    private static void seenMarksForEver() {
        check.part("the two are marked, from now on for ever");
        FlowFabric x = Nets.row(2, 4, 9);
        x.attach(0, 0);
        x.attach(1, 0);
        x.probe();
        x.obey(0);
        x.carry(0, 2);
        x.report(1);
        x.turn(0, 2, false);
        x.turn(0, 2, true);
        check.due("DOWN", x.report(0), 5);
        check.due("DOWN", x.report(1), 5);
        check.due("not known any more", x.known(0, 2), -1);
        x.obey(1);
        x.carry(1, 1);
        x.report(0);
        x.turn(0, 2, false);
        x.turn(0, 2, true);
        Nets.reportAll(x, 2);
        x.guard(0, 0, 1, 2);
        x.send(0, 1, 5);
        x.carry(0, 2);
        check.due("MISS", x.report(1), 0);
        check.due("marked as where it came in", x.place(0), -1);
        Nets.obeyAll(x, 2);
        check.due("no OUT at 0:2", x.waiting(0, 2), 0);
        check.due("no OUT at 1:1", x.waiting(1, 1), 0);
    }

    /** The probe of one switch comes to the other one, and the controller hears of it. */
    private static void seen(FlowFabric x, int from) {
        check.due("carry", x.carry(from, from == 0 ? 2 : 1), true);
        check.due("SEEN", x.report(1 - from), 1);
    }

    private static void seenTakesPlaces() {
        check.part("hosts whose place is one of them have no known place any more");
        for (int from = 0; from < 2; from++) {
            FlowFabric x = falsePlace();
            x.guard(1, 0, 1, 1);
            x.send(1, 2, 3);
            x.carry(1, 1);
            x.report(0);
            x.attach(0, 3);
            x.send(2, 3, 4);
            x.report(1);
            check.due("at one of them", x.place(0), 5);
            check.due("at the other one", x.place(1), 2);
            check.due("beside them", x.place(2), 7);
            Nets.obeyAll(x, 2);
            x.turn(0, 2, false);
            x.turn(0, 2, true);
            Nets.reportAll(x, 2);
            x.probe();
            Nets.obeyAll(x, 2);
            check.due("still there", x.place(0) == 5 && x.place(1) == 2, true);
            seen(x, from);
            check.due("at one of them", x.place(0), -1);
            check.due("at the other one", x.place(1), -1);
            check.due("beside them", x.place(2), 7);
        }
    }

    private static void seenTakesThePlacesOfAll() {
        check.part("hosts whose place is one of them have no known place any more (all of them)");
        FlowFabric x = Nets.row(2, 8, 9);
        int[][] ports = {{0, 0}, {1, 0}, {1, 3}, {0, 1}, {1, 2}, {0, 3}};
        for (int[] port : ports) {
            x.attach(port[0], port[1]);
        }
        x.probe();
        x.obey(1);
        x.guard(0, 0, 0, 2);
        int[] sent = {0, 3, 5};
        for (int host : sent) {
            x.send(host, 2, 5);
            x.carry(0, 2);
            check.due("MISS", x.report(1), 0);
            check.due("its place", x.place(host), 5);
        }
        seen(x, 1);
        for (int host : sent) {
            check.due("host " + host, x.place(host), -1);
        }
    }

    private static void seenClearsLayingAndLaid() {
        check.part("then each course, in their order, that is laying or laid and whose way ends"
                + " with one of these two ports is cleared");
        for (int from = 0; from < 2; from++) {
            for (int state = 2; state <= 3; state++) {
                FlowFabric x = falsePlace();
                x.probe();
                Nets.obeyAll(x, 2);
                x.send(2, 1, 4);
                x.send(1, 0, 5);
                x.report(1);
                x.report(1);
                if (state == 3) {
                    Nets.obeyAll(x, 2);
                    Nets.reportAll(x, 2);
                }
                check.due("ends with 1:1", x.course(1, 0, -1), state);
                check.due("ends with 1:0", x.course(2, 1, -1), state);
                seen(x, from);
                check.due("ends with 1:1", x.course(1, 0, -1), 1);
                check.due("ends with 1:0", x.course(2, 1, -1), state);
                check.due("what it kept", x.course(1, 0, -2), state == 2 ? 5 : 0);
            }
        }
    }

    private static void seenLeavesWhatLeadsOver() {
        check.part("whose way ends with one of these two ports (not one that leads over them)");
        FlowFabric x = Nets.laidRow(3, 4, 9);
        x.carry(0, 2);
        x.carry(1, 2);
        x.probe();
        Nets.obeyAll(x, 3);
        int[][] ends = {{0, 2}, {1, 1}, {1, 2}, {2, 1}};
        for (int[] end : ends) {
            check.due("carry", x.carry(end[0], end[1]), true);
        }
        for (int node = 0; node < 3; node++) {
            check.due("SEEN", x.report(node), 1);
        }
        check.due("SEEN", x.report(1), 1);
        check.due("laid as before", x.course(0, 1, -1), 3);
        check.due("no order", x.waiting(0, 4) + x.waiting(1, 4) + x.waiting(2, 4), 0);
    }

    private static void seenLeavesTheClearing() {
        check.part("that is laying or laid and whose way ends with one of these two ports");
        FlowFabric x = falsePlace();
        x.probe();
        Nets.obeyAll(x, 2);
        x.send(1, 0, 5);
        x.report(1);
        seen(x, 0);
        check.due("cleared", x.course(1, 0, -1), 1);
        int orders = x.waiting(1, 4);
        seen(x, 1);
        check.due("not cleared again", x.waiting(1, 4), orders);
        Nets.obeyAll(x, 2);
        Nets.reportAll(x, 2);
        check.due("its wave still counts", x.course(1, 0, -1), -1);
    }

    private static void seenClearsInTheirOrder() {
        check.part("then each course, in their order, ... is cleared (SEEN)");
        for (int first = 1; first <= 2; first++) {
            int second = 3 - first;
            FlowFabric x = falsePlace();
            x.probe();
            Nets.obeyAll(x, 2);
            x.send(first, 0, 4);
            x.send(second, 0, 5);
            x.report(1);
            x.report(1);
            Nets.obeyAll(x, 2);
            Nets.reportAll(x, 2);
            x.obey(1);
            x.obey(1);
            seen(x, 0);
            check.due("two CUTs and two BARRIERs", x.waiting(1, 4), 4);
            check.due("CUT", x.obey(1), 1);
            check.due("of the one made first", x.rule(1, first, 0, 0), -1);
            check.due("not yet of the other one", x.rule(1, second, 0, 0), 1);
            check.due("BARRIER", x.obey(1), 2);
            check.due("CUT", x.obey(1), 1);
            check.due("of the other one", x.rule(1, second, 0, 0), -1);
        }
    }

    private static void seenClearsAllSix() {
        check.part("then each course ... is cleared (SEEN, all six)");
        FlowFabric x = Nets.row(2, 8, 9);
        int[][] ports = {{0, 0}, {0, 1}, {1, 0}, {1, 2}, {1, 3}};
        for (int[] port : ports) {
            x.attach(port[0], port[1]);
        }
        x.probe();
        x.obey(1);
        x.guard(0, 0, 0, 2);
        for (int host = 0; host < 2; host++) {
            x.send(host, 4, 5);
            x.carry(0, 2);
            x.report(1);
        }
        for (int from = 2; from < 5; from++) {
            for (int to = 0; to < 2; to++) {
                x.send(from, to, 6);
                x.report(1);
                check.due("laying", x.course(from, to, -1), 2);
            }
        }
        seen(x, 1);
        for (int from = 2; from < 5; from++) {
            for (int to = 0; to < 2; to++) {
                check.due("clearing", x.course(from, to, -1), 1);
            }
        }
    }

    private static void doneOfNoCourse() {
        check.part("DONE (a wave): if a course has that wave");
        FlowFabric x = Nets.learnedRow(2, 4, 9);
        x.send(0, 1, 5);
        x.report(0);
        x.turn(0, 2, false);
        check.due("DOWN", x.report(0), 5);
        check.due("clearing", x.course(0, 1, -1), 1);
        x.obey(1);
        x.obey(1);
        check.due("DOWN", x.report(1), 5);
        check.due("DONE of the wave before", x.report(1), 2);
        check.due("clearing as before", x.course(0, 1, -1), 1);
        check.due("no order of it", x.waiting(0, 4), 2);
        x.obey(0);
        x.obey(0);
        check.due("DONE", x.report(0), 2);
        check.due("one of two", x.course(0, 1, -1), 1);
        x.obey(1);
        x.obey(1);
        check.due("DONE", x.report(1), 2);
        check.due("two of two", x.course(0, 1, -1), -1);
    }

    private static void doneOfOneCourseAlone() {
        check.part("DONE (a wave): if a course has that wave (that one alone)");
        FlowFabric x = courses(3);
        for (int k = 0; k < 3; k++) {
            x.obey(0);
            x.obey(0);
            check.due("DONE", x.report(0), 2);
            for (int other = 0; other < 3; other++) {
                check.due("course " + other, stateOf(x, other), other <= k ? 3 : 2);
            }
        }
    }

    private static void doneOfTheLastSwitch() {
        check.part("if it was led to the first switch of its way, it is LAID now");
        FlowFabric y = Nets.star(2, 4, 9);
        y.send(0, 1, 5);
        y.report(0);
        y.obey(0);
        y.obey(0);
        check.due("a way of one, before the DONE", y.course(0, 1, -1), 2);
        y.report(0);
        check.due("a way of one, after it", y.course(0, 1, -1), 3);
        FlowFabric x = Nets.learnedRow(2, 4, 9);
        x.send(0, 1, 5);
        x.report(0);
        x.obey(1);
        x.obey(1);
        x.report(1);
        check.due("a way of two, one DONE", x.course(0, 1, -1), 2);
        check.due("no GO yet", x.waiting(0, 4), 2);
        x.obey(0);
        x.obey(0);
        x.report(0);
        check.due("a way of two, two DONEs", x.course(0, 1, -1), 3);
        check.due("GO", x.obey(0), 4);
        check.due("one GO alone", x.obey(0), -1);
    }

    private static void doneWithAndWithoutADatagram() {
        check.part("TO LAY it is next, if it keeps a datagram and there is a way, else the course"
                + " is gone with what it keeps (a datagram)");
        for (int kept = 0; kept < 2; kept++) {
            FlowFabric x = Nets.star(2, 4, 1);
            x.send(0, 1, 5);
            Nets.settle(x, 2, 2);
            Nets.obeyAll(x, 2);
            x.tick();
            check.due("GONE", x.report(0), 4);
            if (kept == 1) {
                x.send(0, 1, 6);
                x.report(0);
            }
            Nets.obeyAll(x, 2);
            check.due("DONE", x.report(0), 2);
            check.due("it keeps " + kept, x.course(0, 1, -1), kept == 1 ? 2 : -1);
            check.due("orders", x.waiting(0, 4), 2 * kept);
        }
    }

    private static void doneWithAndWithoutAWay() {
        check.part("TO LAY it is next, if it keeps a datagram and there is a way, else the course"
                + " is gone with what it keeps (a way)");
        for (int known = 0; known < 2; known++) {
            FlowFabric x = Nets.learnedRow(2, 4, 9);
            x.send(0, 1, 5);
            x.report(0);
            x.turn(0, 2, false);
            x.turn(0, 2, true);
            Nets.reportAll(x, 2);
            check.due("clearing", x.course(0, 1, -1), 1);
            x.probe();
            Nets.obeyAll(x, 2);
            if (known == 1) {
                x.carry(0, 2);
            }
            while (x.waiting(1, 5) > 0) {
                x.report(1);
            }
            check.due("known", x.known(0, 2), known == 1 ? 5 : -1);
            check.due("one DONE is missing", x.course(0, 1, -1), 1);
            check.due("DONE", x.report(0), 2);
            check.due("ways: " + known, x.course(0, 1, -1), known == 1 ? 2 : -1);
            check.due("what it keeps", x.course(0, 1, -2), known == 1 ? 5 : -1);
            check.due("led to the last switch", x.waiting(1, 4), 2 * known);
        }
    }

    private static void doneOfADatagramWithNumberZero() {
        check.part("if it keeps a datagram (one with the number 0, too)");
        FlowFabric x = Nets.star(2, 4, 9);
        x.send(0, 1, 0);
        x.report(0);
        check.due("keeps it", x.course(0, 1, -2), 0);
        Nets.settle(x, 1, 1);
        check.due("GO", x.obey(0), 4);
        check.due("taken", x.taken(1, 0), 1);
        x.guard(0, 0, 0, 6);
        x.send(0, 1, 0);
        x.report(0);
        check.due("clearing", x.course(0, 1, -1), 1);
        Nets.settle(x, 1, 1);
        check.due("laid out again", x.course(0, 1, -1), 2);
        Nets.settle(x, 1, 1);
        check.due("GO", x.obey(0), 4);
        check.due("taken", x.taken(1, 0), 2);
    }

    /** Room for one rule, which a pair has; another pair's PUT and BARRIER have been obeyed. */
    private static FlowFabric noRoom() {
        FlowFabric x = Nets.star(3, 1, 9);
        x.send(0, 1, 5);
        Nets.settle(x, 2, 2);
        Nets.obeyAll(x, 2);
        x.send(0, 2, 6);
        x.report(0);
        Nets.obeyAll(x, 2);
        return x;
    }

    private static void noRoomOfALayingCourse() {
        check.part("NOROOM (a pair): if its course is laying, it keeps nothing any more and is"
                + " cleared");
        FlowFabric x = noRoom();
        check.due("it keeps", x.course(0, 2, -2), 6);
        check.due("NOROOM", x.report(0), 3);
        check.due("clearing", x.course(0, 2, -1), 1);
        check.due("it keeps nothing", x.course(0, 2, -2), 0);
        check.due("the other course", x.course(0, 1, -1), 3);
        check.due("DONE of the laying", x.report(0), 2);
        Nets.obeyAll(x, 2);
        check.due("DONE", x.report(0), 2);
        check.due("gone, for it keeps nothing", x.course(0, 2, -1), -1);
        check.due("the other rule", x.rule(0, 0, 1, 2), 0);

        FlowFabric y = noRoom();
        y.report(0);
        y.report(0);
        y.send(0, 2, 7);
        y.report(0);
        check.due("it keeps again", y.course(0, 2, -2), 7);
        Nets.obeyAll(y, 2);
        y.report(0);
        check.due("laid out again", y.course(0, 2, -1), 2);
    }

    private static void noRoomOfAClearingCourse() {
        check.part("NOROOM (a pair): if its course is laying");
        FlowFabric x = Nets.learnedRow(2, 1, 9);
        x.attach(1, 3);
        x.send(3, 1, 5);
        x.report(1);
        Nets.settle(x, 2, 2);
        x.send(0, 1, 6);
        x.report(0);
        x.turn(0, 2, false);
        check.due("DOWN", x.report(0), 5);
        Nets.obeyAll(x, 2);
        check.due("DOWN", x.report(1), 5);
        check.due("NOROOM", x.report(1), 3);
        check.due("clearing", x.course(0, 1, -1), 1);
        check.due("it keeps what it kept", x.course(0, 1, -2), 6);
        check.due("it is not cleared again", x.waiting(0, 4) + x.waiting(1, 4), 0);
    }

    private static void goneOfEachState() {
        check.part("GONE (a pair): if its course is laying or laid and its way has s, it is"
                + " cleared");
        FlowFabric laying = Nets.learnedRow(3, 4, 1);
        laying.send(0, 1, 5);
        laying.report(0);
        laying.obey(2);
        laying.tick();
        check.due("GONE", laying.report(2), 4);
        check.due("laying", laying.course(0, 1, -1), 1);
        check.due("it keeps what it kept", laying.course(0, 1, -2), 5);
        for (int node = 0; node < 3; node++) {
            FlowFabric x = Nets.laidRow(3, 4, 1);
            check.due("tick", x.tick(), 3);
            check.due("GONE", x.report(node), 4);
            check.due("laid, of switch " + node, x.course(0, 1, -1), 1);
            check.due("orders", x.waiting(1, 4), 2);
            check.due("GONE", x.report((node + 1) % 3), 4);
            check.due("clearing, no more orders", x.waiting(1, 4), 2);
        }
        FlowFabric two = Nets.star(3, 4, 2);
        two.send(0, 1, 5);
        two.send(0, 2, 6);
        Nets.settle(two, 2, 2);
        Nets.obeyAll(two, 2);
        two.tick();
        two.send(0, 1, 7);
        check.due("one of two", two.tick(), 1);
        check.due("GONE", two.report(0), 4);
        check.due("of its pair", two.course(0, 2, -1), 1);
        check.due("not of the other one", two.course(0, 1, -1), 3);
    }

    private static void downOfAnUnknownEnd() {
        check.part("DOWN (a port): nothing if that is not an end whose other end is known");
        FlowFabric x = Nets.learnedRow(2, 4, 9);
        x.link(0, 1, 1, 2);
        x.send(0, 1, 5);
        x.report(0);
        x.turn(0, 1, false);
        check.due("DOWN", x.report(0), 5);
        check.due("DOWN", x.report(1), 5);
        check.due("the other link is known", x.known(0, 2), 5);
        check.due("laying as before", x.course(0, 1, -1), 2);
        x.turn(0, 2, false);
        check.due("DOWN of a known one", x.report(0), 5);
        check.due("clearing", x.course(0, 1, -1), 1);
        check.due("orders", x.waiting(0, 4), 2);
        check.due("DOWN of the same, not known by now", x.report(1), 5);
        check.due("nothing", x.waiting(0, 4), 2);
    }

    private static void downOfAStaleEnd() {
        check.part("otherwise the two are not known as other ends any more (known again)");
        FlowFabric x = Nets.learnedRow(2, 4, 9);
        x.turn(0, 2, false);
        x.turn(0, 2, true);
        check.due("DOWN", x.report(0), 5);
        check.due("not known", x.known(1, 1), -1);
        x.probe();
        x.obey(1);
        x.carry(1, 1);
        check.due("SEEN", x.report(0), 1);
        check.due("known again", x.known(1, 1), 2);
        x.send(0, 1, 5);
        x.report(0);
        check.due("laying", x.course(0, 1, -1), 2);
        check.due("the other end's DOWN, late", x.report(1), 5);
        check.due("not known", x.known(1, 1), -1);
        check.due("nor the other way round", x.known(0, 2), -1);
        check.due("clearing", x.course(0, 1, -1), 1);
    }

    /** A ring of three with hosts 0 and 1 at switches 0 and 1 and courses both ways, laid. */
    private static FlowFabric ring() {
        FlowFabric x = new FlowFabric(3, 8, 9);
        x.attach(0, 0);
        x.attach(1, 0);
        x.link(0, 1, 1, 1);
        x.link(1, 2, 2, 2);
        x.link(2, 3, 0, 3);
        Nets.learn(x, 3);
        x.send(0, 1, 4);
        x.report(0);
        Nets.obeyAll(x, 3);
        x.send(1, 0, 5);
        x.report(1);
        x.send(0, 1, 6);
        x.report(0);
        Nets.settle(x, 3, 2);
        Nets.obeyAll(x, 3);
        return x;
    }

    private static void downClearsWhatLeadsOut() {
        check.part("then each course, in their order, that is laying or laid and whose way leads"
                + " out of one of them is cleared");
        int[][] cases = {{0, 1, 1}, {1, 1, 1}, {1, 2, 3}, {2, 2, 3}, {0, 3, 3}, {2, 3, 3}};
        for (int[] row : cases) {
            FlowFabric x = ring();
            check.due("laid", x.course(0, 1, -1), 3);
            check.due("laid", x.course(1, 0, -1), 3);
            x.turn(row[0], row[1], false);
            check.due("DOWN", x.report(row[0]), 5);
            String name = "the link of " + row[0] + ":" + row[1];
            check.due(name + ", there", x.course(0, 1, -1), row[2]);
            check.due(name + ", back", x.course(1, 0, -1), row[2]);
            check.due(name + ", not known", x.known(row[0], row[1]), -1);
        }
        FlowFabric x = ring();
        x.turn(0, 1, false);
        x.report(0);
        int orders = x.waiting(0, 4);
        x.turn(1, 2, false);
        x.turn(0, 3, false);
        Nets.reportAll(x, 3);
        check.due("a clearing one is not cleared again", x.waiting(0, 4), orders);
    }

    private static void downClearsInTheirOrder() {
        check.part("then each course, in their order, ... is cleared (DOWN)");
        FlowFabric x = ring();
        x.turn(0, 1, false);
        x.report(1);
        for (int node = 0; node < 2; node++) {
            check.due("two CUTs and two BARRIERs", x.waiting(node, 4), 4);
            check.due("CUT", x.obey(node), 1);
            check.due("of the one made first", x.rule(node, 1, 0, 0), -1);
            check.due("not yet of the other one", x.rule(node, 0, 1, 0), 1 - node);
            check.due("BARRIER", x.obey(node), 2);
            check.due("CUT", x.obey(node), 1);
            check.due("of the other one", x.rule(node, 0, 1, 0), -1);
            check.due("BARRIER", x.obey(node), 2);
        }
        FlowFabric y = ring();
        y.guard(1, 0, 1, 6);
        y.send(1, 0, 7);
        y.report(1);
        check.due("the first one is cleared", y.course(1, 0, -1), 1);
        y.unguard(1, 0);
        Nets.settle(y, 3, 3);
        Nets.obeyAll(y, 3);
        check.due("and laid again", y.course(1, 0, -1), 3);
        y.turn(0, 1, false);
        y.report(0);
        check.due("CUT", y.obey(0), 1);
        check.due("it is the first still", y.rule(0, 1, 0, 0), -1);
        check.due("the other one is the second", y.rule(0, 0, 1, 0), 1);
    }

    private static void downClearsAllSix() {
        check.part("then each course ... is cleared (DOWN, all six)");
        FlowFabric x = new FlowFabric(2, 8, 9);
        x.link(0, 3, 1, 3);
        for (int port = 0; port < 3; port++) {
            x.attach(0, port);
            x.attach(1, port);
        }
        Nets.learn(x, 2);
        for (int host = 0; host < 5; host++) {
            x.send(host, 5, 5);
            x.report(host % 2);
        }
        Nets.obeyAll(x, 2);
        int[][] pairs = {{5, 4}, {4, 5}, {0, 1}, {1, 0}, {0, 3}, {3, 0}};
        for (int[] pair : pairs) {
            x.send(pair[0], pair[1], 6);
            Nets.reportAll(x, 2);
            check.due("laying", x.course(pair[0], pair[1], -1), 2);
        }
        x.turn(1, 3, false);
        check.due("DOWN", x.report(1), 5);
        for (int[] pair : pairs) {
            check.due("clearing", x.course(pair[0], pair[1], -1), 1);
        }
        check.due("six CUTs and BARRIERs and the PUTs", x.waiting(0, 4) + x.waiting(1, 4), 36);
    }
}
