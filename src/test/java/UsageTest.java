/** The run that README.md shows: each call has the answer that stands behind it there. */
public final class UsageTest {
    private static final Check check = new Check();

    private UsageTest() {}

    public static void main(String[] args) {
        check.part("README.md");
        FlowFabric x = new FlowFabric(2, 4, 3);
        check.due("attach(0, 0)", x.attach(0, 0), 0);
        check.due("attach(1, 0)", x.attach(1, 0), 1);
        check.due("link(0, 1, 1, 1)", x.link(0, 1, 1, 1), true);
        learnTheLink(x);
        learnAHost(x);
        layACourse(x);
        goTheWay(x);
        check.end();
    }

    private static void learnTheLink(FlowFabric x) {
        check.due("probe()", x.probe(), true);
        check.due("obey(0)", x.obey(0), 5);
        check.due("carry(0, 1)", x.carry(0, 1), true);
        check.due("report(1)", x.report(1), 1);
        check.due("known(0, 1)", x.known(0, 1), 5);
    }

    private static void learnAHost(FlowFabric x) {
        check.due("send(1, 0, 70)", x.send(1, 0, 70), true);
        check.due("report(1)", x.report(1), 0);
        check.due("place(1)", x.place(1), 4);
        check.due("obey(0)", x.obey(0), 3);
        check.due("taken(0, 1)", x.taken(0, 1), 70);
    }

    private static void layACourse(FlowFabric x) {
        check.due("send(0, 1, 71)", x.send(0, 1, 71), true);
        check.due("report(0)", x.report(0), 0);
        check.due("course(0, 1, -1)", x.course(0, 1, -1), 2);
        check.due("obey(1)", x.obey(1), 5);
        check.due("obey(1)", x.obey(1), 3);
        check.due("obey(1)", x.obey(1), 0);
        check.due("obey(1)", x.obey(1), 2);
        check.due("report(1)", x.report(1), 2);
        check.due("obey(0)", x.obey(0), 0);
        check.due("obey(0)", x.obey(0), 2);
        check.due("report(0)", x.report(0), 2);
        check.due("course(0, 1, -1)", x.course(0, 1, -1), 3);
    }

    private static void goTheWay(FlowFabric x) {
        check.due("obey(0)", x.obey(0), 4);
        check.due("carry(0, 1)", x.carry(0, 1), true);
        check.due("taken(1, 1)", x.taken(1, 1), 71);
        check.due("rule(0, 0, 1, 1)", x.rule(0, 0, 1, 1), 1);
        check.due("tick()", x.tick(), 0);
        check.due("send(0, 0, 72)", x.send(0, 0, 72), false);
    }
}
