import java.util.ArrayList;
import java.util.List;

/**
 * All that a fabric answers, so that two of them can be held against each other: what can be asked
 * of it now, and what comes of it when it goes on. Small fabrics stay within 512 calls.
 */
final class Look {
    private static final int ROUNDS = 7;

    private final FlowFabric x;
    private final int switches;
    private final int hosts;
    private final List<Integer> answers = new ArrayList<>();

    private Look(FlowFabric x, int switches, int hosts) {
        this.x = x;
        this.switches = switches;
        this.hosts = hosts;
    }

    /** What can be asked of it now. */
    static List<Integer> now(FlowFabric x, int switches, int hosts) {
        Look look = new Look(x, switches, hosts);
        look.askSwitches();
        look.askHosts();
        return look.answers;
    }

    /** What comes of it: all that waits goes its way, time goes by, and all ports are tried. */
    static List<Integer> later(FlowFabric x, int switches, int hosts) {
        Look look = new Look(x, switches, hosts);
        for (int round = 0; round < ROUNDS; round++) {
            look.goOn();
        }
        look.tell(x.tick());
        look.askSwitches();
        look.askHosts();
        look.tryPorts();
        return look.answers;
    }

    private void tell(int answer) {
        answers.add(answer);
    }

    private void tell(boolean answer) {
        answers.add(answer ? 1 : 0);
    }

    private void goOn() {
        for (int node = 0; node < switches; node++) {
            for (int port = 0; port < 4; port++) {
                tell(x.carry(node, port));
            }
            tell(x.obey(node));
            tell(x.obey(node));
            tell(x.report(node));
            tell(x.report(node));
        }
    }

    private void askSwitches() {
        for (int node = 0; node < switches; node++) {
            for (int what = 0; what < 6; what++) {
                tell(x.waiting(node, what));
            }
            for (int k = 0; k < 4; k++) {
                tell(x.hits(node, k));
                tell(x.known(node, k));
            }
        }
    }

    private void askHosts() {
        for (int from = 0; from < hosts; from++) {
            tell(x.place(from));
            for (int what = 0; what < 3; what++) {
                tell(x.taken(from, what));
            }
            for (int to = 0; to < hosts; to++) {
                if (to != from) {
                    askPair(from, to);
                }
            }
        }
    }

    private void askPair(int from, int to) {
        for (int node = 0; node < switches; node++) {
            int place = x.rule(node, from, to, 2);
            tell(place);
            if (place != FlowFabric.NONE) {
                tell(x.rule(node, from, to, 0));
                tell(x.rule(node, from, to, 1));
            }
        }
        int state = x.course(from, to, -1);
        tell(state);
        if (state != FlowFabric.NONE) {
            for (int k = -2; k < switches; k++) {
                tell(x.course(from, to, k));
            }
        }
    }

    /** Which ports are free, which links are up, and which number a new host or guard gets. */
    private void tryPorts() {
        for (int node = 0; node < switches; node++) {
            for (int port = 0; port < 4; port++) {
                tell(x.turn(node, port, false));
                tell(x.attach(node, port));
            }
            tell(x.guard(node, 0, 0, 4));
        }
    }
}
