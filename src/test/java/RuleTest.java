/** Promises 9, 12 and 14: obey, tick, rule. */
public final class RuleTest {
    private static final Check check = new Check();

    private RuleTest() {}

    public static void main(String[] args) {
        obeyIsRefused();
        putAndBarrier();
        putWithoutRoom();
        goComesToTheRules();
        cutTakesOneRule();
        outGoesToEachPort();
        probesGoToEachEnd();
        unusedRulesAreGone();
        useKeepsRules();
        oldRulesAreGone();
        goneIsReportedInOrder();
        ruleTells();
        ruleIsRefused();
        check.end();
    }

    private static void obeyIsRefused() {
        check.part("9 obey refused");
        FlowFabric x = new FlowFabric(2, 4, 4);
        int[] wrong = {-1, 2, 0, 1, Integer.MIN_VALUE, Integer.MAX_VALUE};
        for (int node : wrong) {
            check.due("obey(" + node + ")", x.obey(node), -1);
        }
    }

    private static void putAndBarrier() {
        check.part("9 PUT and BARRIER");
        FlowFabric x = Nets.star(3, 4, 4);
        x.send(0, 2, 5);
        x.report(0);
        check.due("orders", x.waiting(0, 4), 2);
        check.due("no rule before the PUT", x.rule(0, 0, 2, 0), -1);
        check.due("PUT", x.obey(0), 0);
        check.due("its port", x.rule(0, 0, 2, 0), 2);
        check.due("no uses", x.rule(0, 0, 2, 1), 0);
        check.due("not of the pair turned round", x.rule(0, 2, 0, 0), -1);
        check.due("a PUT reports nothing", x.waiting(0, 5), 0);
        check.due("BARRIER", x.obey(0), 2);
        check.due("reports", x.waiting(0, 5), 1);
        check.due("DONE", x.report(0), 2);
        check.due("nothing more", x.report(0), -1);
    }

    private static void putWithoutRoom() {
        check.part("9 PUT without room");
        FlowFabric x = Nets.star(3, 1, 4);
        x.send(0, 2, 5);
        x.send(1, 2, 6);
        x.report(0);
        x.report(0);
        check.due("PUT", x.obey(0), 0);
        check.due("BARRIER", x.obey(0), 2);
        check.due("PUT", x.obey(0), 0);
        check.due("no second rule", x.rule(0, 1, 2, 0), -1);
        check.due("the first one stays", x.rule(0, 0, 2, 0), 2);
        check.due("BARRIER", x.obey(0), 2);
        check.due("reports", x.waiting(0, 5), 3);
        check.due("DONE", x.report(0), 2);
        check.due("NOROOM", x.report(0), 3);
        check.due("DONE", x.report(0), 2);
    }

    private static void goComesToTheRules() {
        check.part("9 GO");
        FlowFabric x = Nets.star(3, 4, 4);
        x.send(0, 2, 5);
        Nets.reportAll(x, 2);
        x.obey(0);
        x.obey(0);
        x.report(0);
        x.guard(0, 9, 0, 4);
        check.due("not taken yet", x.taken(2, 1), 0);
        check.due("GO", x.obey(0), 4);
        check.due("it passes the guards by", x.hits(0, 0), 0);
        check.due("the rule is used", x.rule(0, 0, 2, 1), 1);
        check.due("taken", x.taken(2, 1), 5);

        FlowFabric y = Nets.star(3, 4, 1);
        y.send(0, 2, 5);
        y.report(0);
        y.obey(0);
        y.obey(0);
        y.report(0);
        check.due("the rule is gone before the GO", y.tick(), 1);
        check.due("GO", y.obey(0), 4);
        check.due("it is missed", y.waiting(0, 5), 2);
        check.due("GONE", y.report(0), 4);
        check.due("MISS", y.report(0), 0);
        check.due("no place is learned from it", y.place(0), 0);
        check.due("the course keeps it", y.course(0, 2, -2), 5);
    }

    private static void cutTakesOneRule() {
        check.part("9 CUT");
        FlowFabric x = Nets.star(3, 4, 4);
        x.send(0, 1, 5);
        x.send(0, 2, 6);
        Nets.settle(x, 2, 2);
        Nets.obeyAll(x, 2);
        check.due("two rules", x.rule(0, 0, 2, 2), 1);
        x.guard(0, 0, 128, 6);
        x.send(0, 1, 7);
        check.due("MISS", x.report(0), 0);
        check.due("CUT", x.obey(0), 1);
        check.due("its rule is gone", x.rule(0, 0, 1, 0), -1);
        check.due("the other one moves up", x.rule(0, 0, 2, 2), 0);
        check.due("its uses stay", x.rule(0, 0, 2, 1), 1);
        check.due("a CUT reports nothing", x.waiting(0, 5), 0);
        check.due("BARRIER", x.obey(0), 2);

        FlowFabric y = Nets.star(3, 4, 1);
        y.send(0, 1, 5);
        Nets.settle(y, 2, 2);
        Nets.obeyAll(y, 2);
        y.tick();
        y.report(0);
        Nets.obeyAll(y, 2);
        check.due("a CUT without a rule is no fault", y.waiting(0, 5), 1);
        check.due("DONE", y.report(0), 2);
    }

    private static void outGoesToEachPort() {
        check.part("9 OUT");
        FlowFabric x = Nets.row(3, 4, 4);
        x.attach(0, 0);
        x.attach(1, 0);
        x.attach(0, 3);
        x.send(0, 1, 5);
        x.report(0);
        check.due("OUT", x.obey(0), 3);
        check.due("out at the end", x.waiting(0, 2), 1);
        check.due("not for this host", x.taken(2, 0), 0);
        check.due("not back to the sender", x.taken(0, 0), 0);
        check.due("OUT", x.obey(1), 3);
        check.due("taken by its host", x.taken(1, 1), 5);
        check.due("out at each end", x.waiting(1, 1), 1);
        check.due("out at each end", x.waiting(1, 2), 1);
        check.due("OUT", x.obey(2), 3);
        check.due("out at each end", x.waiting(2, 1), 1);
        check.due("nothing is reported", x.waiting(1, 5), 0);
    }

    private static void probesGoToEachEnd() {
        check.part("9 PROBES");
        FlowFabric x = Nets.row(3, 4, 4);
        x.attach(1, 0);
        x.turn(1, 2, false);
        x.probe();
        check.due("PROBES", x.obey(1), 5);
        check.due("at an end", x.waiting(1, 1), 1);
        check.due("not at an end that is down", x.waiting(1, 2), 0);
        check.due("not at a host", x.waiting(1, 0), 0);
        check.due("not at a free port", x.waiting(1, 3), 0);
        check.due("not of another switch", x.waiting(0, 2), 0);
    }

    private static void unusedRulesAreGone() {
        check.part("12 unused rules");
        FlowFabric x = Nets.laidRow(3, 4, 3);
        check.due("tick 1", x.tick(), 0);
        check.due("tick 2", x.tick(), 0);
        check.due("the rules are there", x.rule(1, 0, 1, 0), 2);
        check.due("tick 3", x.tick(), 3);
        for (int node = 0; node < 3; node++) {
            check.due("gone at " + node, x.rule(node, 0, 1, 0), -1);
            check.due("reports of " + node, x.waiting(node, 5), 1);
            check.due("GONE", x.report(node), 4);
        }
        check.due("tick 4", x.tick(), 0);
    }

    private static void useKeepsRules() {
        check.part("12 rules in use");
        FlowFabric x = Nets.laidRow(3, 4, 3);
        x.tick();
        x.tick();
        x.send(0, 1, 8);
        check.due("tick 3: all but the used one", x.tick(), 2);
        check.due("the used one", x.rule(0, 0, 1, 1), 2);
        check.due("no GONE for it", x.waiting(0, 5), 0);
        check.due("GONE", x.waiting(1, 5), 1);
        check.due("tick 4", x.tick(), 0);
        check.due("tick 5", x.tick(), 1);
        check.due("GONE", x.waiting(0, 5), 1);
        check.due("a use does not outlive the rule", x.rule(0, 0, 1, 1), -1);
    }

    private static void oldRulesAreGone() {
        check.part("12 old rules");
        for (int idle = 1; idle <= 3; idle++) {
            FlowFabric x = Nets.star(2, 4, idle);
            for (int early = 0; early < 3; early++) {
                x.tick();
            }
            x.send(0, 1, 5);
            Nets.settle(x, 2, 2);
            Nets.obeyAll(x, 2);
            check.due("idle " + idle + ": one use", x.rule(0, 0, 1, 1), 1);
            int life = idle == 1 ? 1 : 4 * idle;
            for (int tick = 1; tick < life; tick++) {
                check.due("idle " + idle + ", tick " + tick, x.tick(), 0);
                x.send(0, 1, 6);
            }
            check.due("idle " + idle + ", the last tick", x.tick(), 1);
        }
    }

    private static void goneIsReportedInOrder() {
        check.part("12 the order of GONEs");
        FlowFabric x = Nets.star(3, 4, 2);
        x.send(0, 2, 5);
        x.send(0, 1, 6);
        x.send(1, 2, 7);
        Nets.settle(x, 2, 2);
        x.tick();
        Nets.obeyAll(x, 2);
        check.due("not used since the GO", x.tick(), 0);
        x.send(0, 1, 8);
        check.due("the used one stays", x.tick(), 2);
        check.due("and moves up", x.rule(0, 0, 1, 2), 0);
        check.due("reports", x.waiting(0, 5), 2);
        check.due("GONE", x.report(0), 4);
        check.due("of the first rule", x.course(0, 2, -1), 1);
        check.due("not yet of the second one", x.course(1, 2, -1), 3);
        check.due("GONE", x.report(0), 4);
        check.due("of the second rule", x.course(1, 2, -1), 1);
        check.due("none of the used one", x.course(0, 1, -1), 3);

        FlowFabric y = Nets.star(3, 4, 1);
        y.send(0, 1, 5);
        Nets.settle(y, 2, 2);
        Nets.obeyAll(y, 2);
        for (int k = 0; k < 9; k++) {
            y.send(0, 2, k);
        }
        check.due("eight reports", y.waiting(0, 5), 8);
        check.due("tick", y.tick(), 1);
        check.due("a GONE comes all the same", y.waiting(0, 5), 9);
    }

    private static void ruleTells() {
        check.part("14 rule");
        FlowFabric x = Nets.star(4, 4, 4);
        int[][] pairs = {{3, 1}, {0, 2}, {1, 3}};
        for (int[] pair : pairs) {
            x.send(pair[0], pair[1], 1);
        }
        Nets.settle(x, 2, 2);
        Nets.obeyAll(x, 2);
        x.send(0, 2, 2);
        for (int k = 0; k < pairs.length; k++) {
            int from = pairs[k][0];
            int to = pairs[k][1];
            check.due("port of rule " + k, x.rule(0, from, to, 0), to);
            check.due("uses of rule " + k, x.rule(0, from, to, 1), k == 1 ? 2 : 1);
            check.due("place of rule " + k, x.rule(0, from, to, 2), k);
        }
        check.due("another switch", x.rule(1, 0, 2, 0), -1);
    }

    private static void ruleIsRefused() {
        check.part("14 rule refused");
        FlowFabric x = Nets.laidRow(2, 4, 4);
        int[][] wrong = {
            {-1, 0, 1, 0}, {2, 0, 1, 0}, {0, 1, 0, 0}, {0, 0, 2, 0}, {0, 0, 1, -1}, {0, 0, 1, 3},
            {0, -1, 1, 0}, {0, 0, 9, 0}, {Integer.MAX_VALUE, 0, 1, 0}, {0, 0, 1, Integer.MIN_VALUE},
            {0, -1, -1, 0},
        };
        for (int[] row : wrong) {
            check.due("rule(" + row[0] + ", " + row[1] + ", " + row[2] + ", " + row[3] + ")",
                    x.rule(row[0], row[1], row[2], row[3]), -1);
        }
        check.due("rule(0, 0, 1, 0)", x.rule(0, 0, 1, 0), 2);
    }
}
