/** Promises 10 (what a report does to courses) and 19: report, course. */
public final class CourseTest {
    private static final Check check = new Check();

    private CourseTest() {}

    public static void main(String[] args) {
        courseIsLaidFromTheLastSwitch();
        courseIsRefused();
        keptDatagramIsTheLatest();
        missOfALaidCourseClears();
        clearingWaitsForAllDones();
        oldWavesDoNotCount();
        clearedCourseTakesTheNewWay();
        courseWithoutAWayIsGone();
        noRoomForgetsWhatIsKept();
        noRoomOfAClearingCourseIsNothing();
        goneClears();
        downClearsWhatLeadsOut();
        downOfAnotherLinkIsNothing();
        seenClearsWhatEndsThere();
        wayIsTheLeastOfTheShortest();
        wayTakesTheLeastPort();
        wayAtOneSwitch();
        newCourseNeedsAWay();
        sixCourses();
        goIsAddedBehindSixteen();
        check.end();
    }

    private static void courseIsLaidFromTheLastSwitch() {
        check.part("10 DONE, 19 course");
        FlowFabric x = Nets.learnedRow(3, 4, 9);
        x.send(0, 1, 71);
        check.due("no course before the report", x.course(0, 1, -1), -1);
        check.due("MISS", x.report(0), 0);
        check.due("laying", x.course(0, 1, -1), 2);
        check.due("keeps", x.course(0, 1, -2), 71);
        for (int k = 0; k < 3; k++) {
            check.due("switch " + k, x.course(0, 1, k), k);
        }
        for (int node = 2; node >= 0; node--) {
            for (int other = 0; other < 3; other++) {
                check.due("orders of " + other, x.waiting(other, 4), other == node ? 2 : 0);
            }
            check.due("PUT", x.obey(node), 0);
            check.due("its port", x.rule(node, 0, 1, 0), node == 2 ? 0 : 2);
            check.due("nothing more before the DONE", x.course(0, 1, -1), 2);
            check.due("BARRIER", x.obey(node), 2);
            check.due("DONE", x.report(node), 2);
        }
        check.due("laid", x.course(0, 1, -1), 3);
        check.due("keeps none any more", x.course(0, 1, -2), 0);
        check.due("GO", x.obey(0), 4);
        x.carry(0, 2);
        x.carry(1, 2);
        check.due("taken", x.taken(1, 1), 71);
        check.due("no course back", x.course(1, 0, -1), -1);
    }

    private static void courseIsRefused() {
        check.part("19 course refused");
        FlowFabric x = Nets.laidRow(3, 4, 9);
        int[][] wrong = {
            {0, 1, 3}, {0, 1, -3}, {0, 1, Integer.MAX_VALUE}, {0, 1, Integer.MIN_VALUE}, {1, 0, -1},
            {0, 2, -1}, {0, 2, -2}, {0, 0, 0}, {-1, 1, -1}, {0, 6, -1}, {-1, -1, -1},
        };
        for (int[] row : wrong) {
            check.due("course(" + row[0] + ", " + row[1] + ", " + row[2] + ")",
                    x.course(row[0], row[1], row[2]), -1);
        }
        check.due("course(0, 1, 2)", x.course(0, 1, 2), 2);
        check.due("course(0, 1, -2)", x.course(0, 1, -2), 0);
    }

    private static void keptDatagramIsTheLatest() {
        check.part("10 MISS of a laying course");
        FlowFabric x = Nets.learnedRow(2, 4, 9);
        x.send(0, 1, 71);
        x.send(0, 1, 0);
        x.send(0, 1, 72);
        x.report(0);
        check.due("keeps the first", x.course(0, 1, -2), 71);
        x.report(0);
        check.due("keeps one with the number 0", x.course(0, 1, -2), 0);
        x.report(0);
        check.due("keeps the latest", x.course(0, 1, -2), 72);
        check.due("still laying", x.course(0, 1, -1), 2);
        check.due("nothing is ordered again", x.waiting(1, 4), 2);
        Nets.settle(x, 2, 2);
        check.due("one GO", x.waiting(0, 4), 1);
        x.obey(0);
        x.carry(0, 2);
        check.due("of the latest", x.taken(1, 1), 72);
        check.due("of it alone", x.taken(1, 0), 1);
    }

    private static void missOfALaidCourseClears() {
        check.part("10 MISS of a laid course");
        FlowFabric x = Nets.laidRow(3, 4, 9);
        x.carry(0, 2);
        x.guard(1, 0, 0, 6);
        x.send(0, 1, 72);
        x.carry(0, 2);
        check.due("MISS", x.report(1), 0);
        check.due("clearing", x.course(0, 1, -1), 1);
        check.due("keeps", x.course(0, 1, -2), 72);
        check.due("the way stays", x.course(0, 1, 2), 2);
        check.due("the marked port is no place", x.place(0), 0);
        for (int node = 0; node < 3; node++) {
            check.due("CUT", x.obey(node), 1);
            check.due("BARRIER", x.obey(node), 2);
            check.due("no more", x.obey(node), -1);
            check.due("no rule", x.rule(node, 0, 1, 0), -1);
            check.due("clearing until the last DONE", x.course(0, 1, -1), 1);
            check.due("DONE", x.report(node), 2);
        }
        check.due("laying again", x.course(0, 1, -1), 2);
        check.due("keeps it still", x.course(0, 1, -2), 72);
        check.due("led to the last switch", x.waiting(2, 4), 2);
        x.unguard(1, 0);
        Nets.settle(x, 3, 3);
        check.due("laid again", x.course(0, 1, -1), 3);
        x.obey(0);
        x.carry(0, 2);
        x.carry(1, 2);
        x.carry(1, 2);
        check.due("taken", x.taken(1, 1), 72);
    }

    private static void clearingWaitsForAllDones() {
        check.part("10 DONE of a clearing course");
        FlowFabric x = Nets.laidRow(3, 4, 2);
        x.tick();
        x.tick();
        check.due("GONE", x.report(1), 4);
        check.due("clearing", x.course(0, 1, -1), 1);
        check.due("GONE of a clearing course", x.report(0), 4);
        check.due("GONE of a clearing course", x.report(2), 4);
        check.due("cleared once", x.waiting(1, 4), 2);
        x.send(0, 1, 75);
        check.due("MISS", x.report(0), 0);
        check.due("a clearing one keeps, too", x.course(0, 1, -2), 75);
        check.due("and is not cleared again", x.waiting(0, 4), 2);
        Nets.obeyAll(x, 3);
        check.due("DONE", x.report(2), 2);
        check.due("DONE", x.report(0), 2);
        check.due("one is missing", x.course(0, 1, -1), 1);
        check.due("DONE", x.report(1), 2);
        check.due("laying", x.course(0, 1, -1), 2);
    }

    private static void oldWavesDoNotCount() {
        check.part("10 DONE of an old wave");
        FlowFabric x = Nets.learnedRow(2, 4, 9);
        x.send(0, 1, 71);
        x.report(0);
        x.turn(0, 2, false);
        check.due("DOWN", x.report(0), 5);
        check.due("clearing", x.course(0, 1, -1), 1);
        check.due("PUT", x.obey(1), 0);
        check.due("BARRIER of the old wave", x.obey(1), 2);
        check.due("DOWN", x.report(1), 5);
        check.due("DONE of the old wave", x.report(1), 2);
        check.due("no order comes of it", x.waiting(0, 4), 2);
        Nets.obeyAll(x, 1);
        check.due("DONE", x.report(0), 2);
        check.due("the old one did not count", x.course(0, 1, -1), 1);
        check.due("CUT", x.obey(1), 1);
        check.due("the rule is gone", x.rule(1, 0, 1, 0), -1);
        check.due("BARRIER", x.obey(1), 2);
        check.due("DONE", x.report(1), 2);
        check.due("no way", x.course(0, 1, -1), -1);
    }

    /** Two ways from switch 0 to switch 3, by 1 or by 2; places of 0 (at 0:0) and 1 (at 3:0). */
    private static FlowFabric diamond() {
        FlowFabric x = new FlowFabric(4, 8, 9);
        x.attach(0, 0);
        x.attach(3, 0);
        x.attach(0, 3);
        x.link(0, 1, 2, 1);
        x.link(0, 2, 1, 1);
        x.link(1, 3, 3, 3);
        x.link(2, 2, 3, 1);
        Nets.learn(x, 4);
        x.send(0, 2, 1);
        x.send(1, 2, 2);
        Nets.reportAll(x, 4);
        Nets.obeyAll(x, 4);
        return x;
    }

    private static void clearedCourseTakesTheNewWay() {
        check.part("10 a new way");
        FlowFabric x = diamond();
        x.send(0, 1, 71);
        x.report(0);
        check.due("by switch 1", x.course(0, 1, 1), 1);
        x.turn(1, 3, false);
        check.due("DOWN", x.report(3), 5);
        check.due("clearing", x.course(0, 1, -1), 1);
        check.due("the old way stays", x.course(0, 1, 1), 1);
        Nets.obeyAll(x, 4);
        Nets.reportAll(x, 4);
        check.due("laying", x.course(0, 1, -1), 2);
        check.due("by switch 2", x.course(0, 1, 1), 2);
        check.due("it ends where it did", x.course(0, 1, 2), 3);
        check.due("no fourth switch", x.course(0, 1, 3), -1);
        Nets.settle(x, 4, 3);
        x.obey(0);
        check.due("GO to switch 2", x.waiting(0, 1), 1);
        check.due("none at switch 1", x.rule(1, 0, 1, 0), -1);
    }

    private static void courseWithoutAWayIsGone() {
        check.part("10 a course without a way");
        FlowFabric x = Nets.learnedRow(2, 4, 9);
        x.send(0, 1, 71);
        x.report(0);
        x.turn(0, 2, false);
        Nets.reportAll(x, 2);
        Nets.obeyAll(x, 2);
        Nets.reportAll(x, 2);
        check.due("gone", x.course(0, 1, -1), -1);
        check.due("with what it kept", x.course(0, 1, -2), -1);
        check.due("no order", x.waiting(0, 4) + x.waiting(1, 4), 0);

        FlowFabric y = Nets.laidRow(2, 4, 1);
        y.tick();
        Nets.reportAll(y, 2);
        Nets.obeyAll(y, 2);
        Nets.reportAll(y, 2);
        check.due("one that keeps none is gone in spite of a way", y.course(0, 1, -1), -1);
        y.send(0, 1, 72);
        y.report(0);
        check.due("and can be made again", y.course(0, 1, -1), 2);
    }

    private static void noRoomForgetsWhatIsKept() {
        check.part("10 NOROOM");
        FlowFabric x = Nets.star(3, 1, 9);
        x.send(0, 1, 5);
        x.send(0, 2, 6);
        x.report(0);
        x.report(0);
        Nets.obeyAll(x, 2);
        check.due("DONE", x.report(0), 2);
        check.due("laid", x.course(0, 1, -1), 3);
        check.due("NOROOM", x.report(0), 3);
        check.due("clearing", x.course(0, 2, -1), 1);
        check.due("keeps nothing", x.course(0, 2, -2), 0);
        check.due("the other course is as it was", x.course(0, 1, -1), 3);
        check.due("DONE of the old wave", x.report(0), 2);
        check.due("still clearing", x.course(0, 2, -1), 1);
        Nets.obeyAll(x, 2);
        Nets.reportAll(x, 2);
        check.due("gone", x.course(0, 2, -1), -1);
        check.due("the rule of the other one stays", x.rule(0, 0, 1, 1), 1);
    }

    private static void noRoomOfAClearingCourseIsNothing() {
        check.part("10 NOROOM of a clearing course");
        FlowFabric x = Nets.learnedRow(2, 1, 9);
        x.attach(1, 3);
        x.send(3, 1, 5);
        x.report(1);
        Nets.settle(x, 2, 2);
        x.send(0, 1, 71);
        x.report(0);
        x.turn(0, 2, false);
        check.due("DOWN", x.report(0), 5);
        check.due("clearing", x.course(0, 1, -1), 1);
        Nets.obeyAll(x, 2);
        check.due("DOWN", x.report(1), 5);
        check.due("NOROOM", x.report(1), 3);
        check.due("it keeps what it kept", x.course(0, 1, -2), 71);
        check.due("it is not cleared again", x.waiting(0, 4), 0);
    }

    private static void goneClears() {
        check.part("10 GONE");
        FlowFabric x = Nets.laidRow(2, 4, 2);
        x.tick();
        x.send(0, 1, 9);
        check.due("the rule of switch 1 is gone", x.tick(), 1);
        check.due("laid until the report", x.course(0, 1, -1), 3);
        check.due("GONE", x.report(1), 4);
        check.due("clearing", x.course(0, 1, -1), 1);

        FlowFabric y = Nets.learnedRow(3, 4, 1);
        y.send(0, 1, 71);
        y.report(0);
        y.obey(2);
        y.tick();
        check.due("GONE", y.report(2), 4);
        check.due("a laying one is cleared, too", y.course(0, 1, -1), 1);
        check.due("it keeps what it kept", y.course(0, 1, -2), 71);
        check.due("at each switch", y.waiting(0, 4), 2);
        check.due("at each switch", y.waiting(1, 4), 2);
        check.due("behind the old BARRIER", y.waiting(2, 4), 3);
    }

    private static void downClearsWhatLeadsOut() {
        check.part("10 DOWN");
        FlowFabric x = Nets.learnedRow(3, 8, 9);
        x.send(0, 1, 71);
        x.send(1, 0, 72);
        Nets.reportAll(x, 3);
        Nets.settle(x, 3, 3);
        Nets.obeyAll(x, 3);
        check.due("laid", x.course(0, 1, -1), 3);
        check.due("laid", x.course(1, 0, -1), 3);
        x.turn(1, 2, false);
        check.due("DOWN", x.report(2), 5);
        check.due("it leads out of the near end", x.course(0, 1, -1), 1);
        check.due("it leads out of the far end", x.course(1, 0, -1), 1);
        check.due("CUT and BARRIER of each", x.waiting(1, 4), 4);
        check.due("DOWN", x.report(1), 5);
        check.due("cleared once", x.waiting(1, 4), 4);
    }

    private static void downOfAnotherLinkIsNothing() {
        check.part("10 DOWN of another link");
        FlowFabric x = diamond();
        x.send(0, 1, 71);
        x.report(0);
        Nets.settle(x, 4, 3);
        x.turn(0, 1, false);
        x.turn(2, 2, false);
        Nets.reportAll(x, 4);
        check.due("known(2, 2)", x.known(2, 2), -1);
        check.due("laid as before", x.course(0, 1, -1), 3);
    }

    private static void seenClearsWhatEndsThere() {
        check.part("10 SEEN");
        FlowFabric x = Nets.row(2, 8, 9);
        x.attach(0, 0);
        x.attach(1, 0);
        x.attach(1, 3);
        x.send(0, 1, 5);
        x.report(0);
        x.obey(0);
        x.carry(0, 2);
        x.report(1);
        check.due("a place at an end not yet known", x.place(0), 5);
        x.send(1, 0, 6);
        x.send(2, 1, 7);
        x.report(1);
        x.report(1);
        check.due("a course to it", x.course(1, 0, -1), 2);
        check.due("a course to another place", x.course(2, 1, -1), 2);
        Nets.obeyAll(x, 2);
        Nets.reportAll(x, 2);
        check.due("laid", x.course(1, 0, -1), 3);
        check.due("its port", x.rule(1, 1, 0, 0), 1);
        x.probe();
        Nets.obeyAll(x, 2);
        int probed = 0;
        for (int k = 0; k < 6 && probed == 0; k++) {
            x.carry(0, 2);
            while (x.waiting(1, 5) > 0) {
                probed += x.report(1) == 1 ? 1 : 0;
            }
        }
        check.due("SEEN", probed, 1);
        check.due("no place", x.place(0), -1);
        check.due("other places stay", x.place(1), 4);
        check.due("other places stay", x.place(2), 7);
        check.due("cleared", x.course(1, 0, -1), 1);
        check.due("the other one is laid as before", x.course(2, 1, -1), 3);
    }

    private static void wayIsTheLeastOfTheShortest() {
        check.part("19 the way");
        FlowFabric x = diamond();
        x.send(0, 1, 71);
        x.report(0);
        check.due("the lesser switch, in spite of its port", x.course(0, 1, 1), 1);
        Nets.settle(x, 4, 3);
        check.due("its port", x.rule(0, 0, 1, 0), 2);
        check.due("its port", x.rule(1, 0, 1, 0), 3);
        x.send(1, 0, 72);
        x.report(3);
        check.due("the way back", x.course(1, 0, 1), 1);

        FlowFabric y = new FlowFabric(5, 8, 9);
        y.attach(0, 0);
        y.attach(4, 0);
        y.attach(0, 3);
        y.link(0, 1, 1, 1);
        y.link(1, 2, 2, 1);
        y.link(2, 2, 4, 1);
        y.link(0, 2, 3, 1);
        y.link(3, 2, 4, 2);
        Nets.learn(y, 5);
        y.send(1, 2, 1);
        y.report(4);
        y.send(0, 1, 71);
        y.report(0);
        check.due("the shorter one, in spite of its switch", y.course(0, 1, 1), 3);
        check.due("its end", y.course(0, 1, 2), 4);
        check.due("its length", y.course(0, 1, 3), -1);
    }

    private static void wayTakesTheLeastPort() {
        check.part("19 the port of the way");
        FlowFabric x = new FlowFabric(2, 8, 9);
        x.attach(0, 0);
        x.attach(1, 0);
        x.attach(0, 1);
        x.link(0, 3, 1, 1);
        x.link(0, 2, 1, 3);
        Nets.learn(x, 2);
        x.send(1, 2, 1);
        x.report(1);
        x.send(0, 1, 71);
        x.report(0);
        Nets.obeyAll(x, 2);
        Nets.settle(x, 2, 2);
        check.due("the least port at this switch", x.rule(0, 0, 1, 0), 2);
        x.turn(0, 2, false);
        Nets.reportAll(x, 2);
        check.due("clearing", x.course(0, 1, -1), 1);
        Nets.obeyAll(x, 2);
        x.send(0, 1, 72);
        Nets.settle(x, 2, 4);
        check.due("the other port", x.rule(0, 0, 1, 0), 3);
        check.due("laid", x.course(0, 1, -1), 3);
    }

    private static void wayAtOneSwitch() {
        check.part("19 a way of one switch");
        FlowFabric x = Nets.star(2, 4, 9);
        x.send(1, 0, 5);
        x.report(0);
        check.due("its switch", x.course(1, 0, 0), 0);
        check.due("no second one", x.course(1, 0, 1), -1);
        x.obey(0);
        x.obey(0);
        check.due("DONE", x.report(0), 2);
        check.due("laid at once", x.course(1, 0, -1), 3);
        check.due("GO", x.obey(0), 4);
        check.due("taken", x.taken(0, 1), 5);
    }

    private static void newCourseNeedsAWay() {
        check.part("10 MISS without a way");
        FlowFabric x = new FlowFabric(2, 4, 9);
        x.attach(0, 0);
        x.attach(1, 0);
        x.attach(1, 1);
        x.send(1, 2, 5);
        x.report(1);
        Nets.obeyAll(x, 2);
        x.send(0, 1, 6);
        check.due("MISS", x.report(0), 0);
        check.due("its place is learned", x.place(0), 0);
        check.due("no course", x.course(0, 1, -1), -1);
        check.due("no OUT", x.waiting(0, 4) + x.waiting(1, 4), 0);

        FlowFabric y = Nets.row(2, 4, 9);
        y.attach(0, 0);
        y.attach(1, 0);
        Nets.learn(y, 2);
        y.guard(0, 0, 0, 2);
        y.send(1, 0, 5);
        y.report(1);
        Nets.obeyAll(y, 2);
        y.send(0, 1, 6);
        y.carry(0, 2);
        check.due("MISS at a marked port", y.report(1), 0);
        check.due("the first place is not known", y.place(0), -1);
        check.due("no course", y.course(0, 1, -1), -1);
        check.due("no OUT", y.waiting(0, 4) + y.waiting(1, 4), 0);
    }

    private static void sixCourses() {
        check.part("10 six courses");
        FlowFabric x = Nets.star(4, 8, 1);
        int[][] pairs = {{0, 1}, {0, 2}, {0, 3}, {1, 0}, {1, 2}, {1, 3}, {2, 0}};
        for (int k = 0; k < pairs.length; k++) {
            x.send(pairs[k][0], pairs[k][1], 5 + k);
            check.due("MISS", x.report(0), 0);
            check.due("course " + k, x.course(pairs[k][0], pairs[k][1], -1), k < 6 ? 2 : -1);
        }
        check.due("no order for the seventh", x.waiting(0, 4), 12);
        Nets.obeyAll(x, 2);
        Nets.reportAll(x, 2);
        Nets.obeyAll(x, 2);
        x.tick();
        x.report(0);
        x.obey(0);
        x.obey(0);
        check.due("the first one is clearing", x.course(0, 1, -1), 1);
        Nets.reportAll(x, 2);
        check.due("and gone", x.course(0, 1, -1), -1);
        x.send(2, 0, 20);
        x.report(0);
        check.due("there is room for one more", x.course(2, 0, -1), 2);
    }

    private static void goIsAddedBehindSixteen() {
        check.part("10 PUT, BARRIER, CUT and GO at sixteen orders");
        FlowFabric x = Nets.star(2, 8, 9);
        for (int k = 0; k < 16; k++) {
            x.probe();
        }
        x.send(0, 1, 5);
        x.report(0);
        check.due("PUT and BARRIER", x.waiting(0, 4), 18);
        for (int k = 0; k < 18; k++) {
            x.obey(0);
        }
        Nets.obeyAll(x, 2);
        for (int k = 0; k < 16; k++) {
            x.probe();
        }
        x.report(0);
        check.due("GO", x.waiting(0, 4), 17);
        x.guard(0, 0, 0, 6);
        x.send(0, 1, 6);
        x.report(0);
        check.due("CUT and BARRIER", x.waiting(0, 4), 19);
    }
}
