import java.util.ArrayList;
import java.util.Arrays;
import java.util.List;
import java.util.Map;
import java.util.Random;
import java.util.TreeMap;

/** All promises: random runs of 512 calls, each answer held against PlainFabric's. */
public final class RandomRunsTest {
    private static final int RUNS = 6000;
    private static final int CALLS = 512;

    private static final int ATTACH = 0;
    private static final int LINK = 1;
    private static final int TURN = 2;
    private static final int GUARD = 3;
    private static final int UNGUARD = 4;
    private static final int SEND = 5;
    private static final int CARRY = 6;
    private static final int OBEY = 7;
    private static final int REPORT = 8;
    private static final int PROBE = 9;
    private static final int TICK = 10;
    private static final int WAITING = 11;
    private static final int RULE = 12;
    private static final int HITS = 13;
    private static final int TAKEN = 14;
    private static final int KNOWN = 15;
    private static final int PLACE = 16;
    private static final int COURSE = 17;

    private static final String[] NAMES = {
        "attach", "link", "turn", "guard", "unguard", "send", "carry", "obey", "report",
        "probe", "tick", "waiting", "rule", "hits", "taken", "known", "place", "course",
    };

    /** How often each call is drawn: one row for each manner of run. */
    private static final int[][] WEIGHTS = {
        {1, 1, 1, 1, 1, 20, 30, 40, 40, 2, 3, 10, 8, 4, 8, 5, 5, 15},
        {1, 1, 6, 0, 0, 20, 30, 45, 45, 6, 1, 10, 5, 0, 5, 5, 5, 15},
        {1, 1, 2, 8, 6, 40, 30, 20, 20, 3, 1, 10, 5, 10, 10, 5, 5, 10},
        {2, 2, 10, 2, 2, 30, 10, 10, 15, 15, 3, 10, 3, 2, 3, 3, 3, 8},
        {0, 0, 0, 0, 0, 20, 25, 50, 50, 1, 8, 5, 10, 0, 5, 2, 2, 15},
        {1, 1, 1, 1, 1, 30, 20, 12, 40, 1, 1, 10, 5, 2, 5, 5, 5, 15},
        {0, 0, 40, 0, 0, 10, 5, 5, 8, 2, 1, 5, 1, 0, 1, 1, 1, 5},
        {0, 0, 0, 0, 0, 60, 25, 25, 25, 1, 10, 5, 10, 0, 5, 2, 2, 5},
    };

    private static final List<String> TO_BE_REACHED = List.of(
            "turn refused for reports", "frames lost by turn", "verdict 0", "verdict 1",
            "verdict 2", "verdict 3", "verdict 4", "verdict 5", "verdict 6", "rule used",
            "missed by a GO", "MISS lost", "SEEN lost", "OUT lost", "taken", "lost at a link",
            "lost elsewhere", "kept by one clearing", "kept by one laying", "kept by one laid",
            "no port left for an OUT", "six courses already", "no way for a new course",
            "place lost", "laid again", "gone, kept none", "gone, no way",
            "laying cleared by NOROOM", "laying cleared by GONE", "laying cleared by SEEN",
            "laying cleared by DOWN", "laid cleared by MISS", "laid cleared by GONE",
            "laid cleared by SEEN", "laid cleared by DOWN", "way of 1", "way of 2", "way of 3",
            "way of 4", "way of 5", "several shortest rows", "probe refused",
            "rule gone, unused", "rule gone, old");

    private final Random random;
    private final FlowFabric real;
    private final PlainFabric plain;
    private final int[] weights;
    private final boolean settles;
    private final List<String> told = new ArrayList<>();
    private int calls = 0;

    private RandomRunsTest(long seed, Map<String, Integer> events) {
        random = new Random(seed);
        int switches = random.nextInt(12) == 0 ? random.nextInt(14) - 4 : 2 + random.nextInt(4);
        int room = random.nextInt(12) == 0 ? random.nextInt(20) - 5 : 1 + random.nextInt(8);
        int idle = random.nextInt(12) == 0 ? random.nextInt(20) - 5 : 1 + random.nextInt(9);
        real = new FlowFabric(switches, room, idle);
        plain = new PlainFabric(switches, room, idle, events);
        told.add("new FlowFabric(" + switches + ", " + room + ", " + idle + ")");
        weights = WEIGHTS[random.nextInt(WEIGHTS.length)];
        settles = random.nextBoolean();
    }

    public static void main(String[] args) {
        Map<String, Integer> events = new TreeMap<>();
        int wrong = 0;
        for (int seed = 1; seed <= RUNS && wrong < 3; seed++) {
            RandomRunsTest run = new RandomRunsTest(seed, events);
            if (!run.agrees()) {
                wrong++;
                System.out.println("run " + seed + ":");
                run.told.forEach(row -> System.out.println("  " + row));
            }
        }
        for (String event : TO_BE_REACHED) {
            if (wrong == 0 && !events.containsKey(event)) {
                wrong++;
                System.out.println("no run reaches: " + event);
            }
        }
        if (args.length > 0) {
            events.forEach((event, count) -> System.out.println(count + " " + event));
        }
        System.out.println(wrong == 0 ? "all runs agree" : wrong + " faults");
        if (wrong != 0) {
            System.exit(1);
        }
    }

    private boolean agrees() {
        boolean same = true;
        int links = random.nextInt(20);
        for (int k = 0; k < links && same; k++) {
            same = agreesOn(LINK, drawn(LINK));
        }
        int hosts = random.nextInt(7);
        for (int k = 0; k < hosts && same; k++) {
            same = agreesOn(ATTACH, drawn(ATTACH));
        }
        if (random.nextInt(3) > 0 && same) {
            same = agreesOnLearning();
        }
        while (calls < CALLS && same) {
            int op = drawnCall();
            same = agreesOn(op, drawn(op));
            if (settles && random.nextInt(20) == 0) {
                same = same && agreesOnSettling();
            }
        }
        return same;
    }

    /** Lets orders and reports come to their end, so that courses get laid. */
    private boolean agreesOnSettling() {
        boolean same = true;
        int most = Math.min(CALLS, calls + 60);
        for (int round = 0; round < 60 && same; round++) {
            for (int node = 0; node < plain.s && same; node++) {
                if (calls < most && plain.waiting(node, 4) > 0) {
                    same = agreesOn(OBEY, new int[] {node, 0, 0, 0});
                }
                if (calls < most && same && plain.waiting(node, 5) > 0) {
                    same = agreesOn(REPORT, new int[] {node, 0, 0, 0});
                }
            }
        }
        return same;
    }

    /** Lets the controller know every link, so that the runs do not all stay at floods. */
    private boolean agreesOnLearning() {
        boolean same = agreesOn(PROBE, new int[4]);
        for (int node = 0; node < plain.s && same; node++) {
            same = agreesOn(OBEY, new int[] {node, 0, 0, 0});
        }
        for (int node = 0; node < plain.s && same; node++) {
            for (int port = 0; port < 4 && same; port++) {
                same = agreesOn(CARRY, new int[] {node, port, 0, 0});
            }
        }
        for (int node = 0; node < plain.s && same; node++) {
            while (plain.waiting(node, 5) > 0 && same) {
                same = agreesOn(REPORT, new int[] {node, 0, 0, 0});
            }
        }
        return same;
    }

    private boolean agreesOn(int op, int[] with) {
        calls++;
        int want = askPlain(op, with);
        int got = askReal(op, with);
        told.add(NAMES[op] + Arrays.toString(with) + " answered " + got
                + (got == want ? "" : ", due is " + want));
        return got == want;
    }

    private int drawnCall() {
        int sum = 0;
        for (int weight : weights) {
            sum += weight;
        }
        int left = random.nextInt(sum);
        for (int op = 0; op < weights.length; op++) {
            left -= weights[op];
            if (left < 0) {
                return op;
            }
        }
        return TICK;
    }

    private int[] drawn(int op) {
        int[] with = new int[4];
        switch (op) {
            case ATTACH, KNOWN -> set(with, node(), port(), 0, 0);
            case LINK -> set(with, node(), port(), node(), port());
            case TURN -> turnAt(with);
            case GUARD -> set(with, node(), near(10), match(), near(7));
            case UNGUARD, HITS -> set(with, node(), near(4), 0, 0);
            case SEND -> set(with, near(hosts()), near(hosts()), number(), 0);
            case CARRY -> carryFrom(with);
            case OBEY -> set(with, busyNode(4), 0, 0, 0);
            case REPORT -> set(with, busyNode(5), 0, 0, 0);
            case WAITING -> set(with, node(), near(6), 0, 0);
            case RULE -> set(with, node(), near(hosts()), near(hosts()), near(3));
            case TAKEN -> set(with, near(hosts()), near(3), 0, 0);
            case PLACE -> set(with, near(hosts()), 0, 0, 0);
            case COURSE -> set(with, near(hosts()), near(hosts()), random.nextInt(9) - 3, 0);
            default -> { }
        }
        return with;
    }

    private static void set(int[] with, int a, int b, int c, int d) {
        with[0] = a;
        with[1] = b;
        with[2] = c;
        with[3] = d;
    }

    private int hosts() {
        return Math.max(1, plain.hosts.size());
    }

    /** Mostly 0 .. bound - 1, now and then a little or far outside of it. */
    private int near(int bound) {
        int luck = random.nextInt(200);
        if (luck == 0) {
            return random.nextInt();
        }
        return luck < 6 ? random.nextInt(bound + 4) - 2 : random.nextInt(bound);
    }

    private int node() {
        return near(plain.s);
    }

    private int port() {
        return near(4);
    }

    private int match() {
        if (random.nextInt(8) == 0) {
            return random.nextInt(700) - 100;
        }
        int port = random.nextInt(2) == 0 ? 0 : random.nextInt(5);
        int from = random.nextInt(2) == 0 ? 0 : random.nextInt(7);
        int to = random.nextInt(2) == 0 ? 0 : random.nextInt(7);
        return port + 8 * from + 64 * to;
    }

    private int number() {
        return random.nextInt(20) == 0 ? random.nextInt() : random.nextInt(1000);
    }

    /** Mostly a switch that has orders (4) or reports (5). */
    private int busyNode(int what) {
        int node = node();
        for (int k = 0; k < plain.s && random.nextInt(10) > 0; k++) {
            if (plain.waiting(node, what) > 0) {
                return node;
            }
            node = random.nextInt(plain.s);
        }
        return node;
    }

    /** Mostly an end with frames on its wire. */
    private void carryFrom(int[] with) {
        set(with, node(), port(), 0, 0);
        for (int k = 0; k < 12 && random.nextInt(10) > 0; k++) {
            if (with[1] >= 0 && with[1] < 4 && plain.waiting(with[0], with[1]) > 0) {
                return;
            }
            set(with, node(), port(), 0, 0);
        }
    }

    /** Mostly an end, and mostly the way that its link is not. */
    private void turnAt(int[] with) {
        set(with, node(), port(), random.nextInt(2), 0);
        List<PlainFabric.Spot> ends = new ArrayList<>(plain.links.keySet());
        if (!ends.isEmpty() && random.nextInt(10) > 0) {
            PlainFabric.Spot end = ends.get(random.nextInt(ends.size()));
            boolean wasDown = plain.isDown(end);
            boolean up = random.nextInt(10) > 0 ? wasDown : !wasDown;
            set(with, end.node(), end.port(), asNumber(up), 0);
        }
    }

    private static int asNumber(boolean answer) {
        return answer ? 1 : 0;
    }

    private int askReal(int op, int[] w) {
        return switch (op) {
            case ATTACH -> real.attach(w[0], w[1]);
            case LINK -> asNumber(real.link(w[0], w[1], w[2], w[3]));
            case TURN -> asNumber(real.turn(w[0], w[1], w[2] == 1));
            case GUARD -> real.guard(w[0], w[1], w[2], w[3]);
            case UNGUARD -> real.unguard(w[0], w[1]);
            case SEND -> asNumber(real.send(w[0], w[1], w[2]));
            case CARRY -> asNumber(real.carry(w[0], w[1]));
            case OBEY -> real.obey(w[0]);
            case REPORT -> real.report(w[0]);
            case PROBE -> asNumber(real.probe());
            case TICK -> real.tick();
            case WAITING -> real.waiting(w[0], w[1]);
            case RULE -> real.rule(w[0], w[1], w[2], w[3]);
            case HITS -> real.hits(w[0], w[1]);
            case TAKEN -> real.taken(w[0], w[1]);
            case KNOWN -> real.known(w[0], w[1]);
            case PLACE -> real.place(w[0]);
            default -> real.course(w[0], w[1], w[2]);
        };
    }

    private int askPlain(int op, int[] w) {
        return switch (op) {
            case ATTACH -> plain.attach(w[0], w[1]);
            case LINK -> asNumber(plain.link(w[0], w[1], w[2], w[3]));
            case TURN -> asNumber(plain.turn(w[0], w[1], w[2] == 1));
            case GUARD -> plain.guard(w[0], w[1], w[2], w[3]);
            case UNGUARD -> plain.unguard(w[0], w[1]);
            case SEND -> asNumber(plain.send(w[0], w[1], w[2]));
            case CARRY -> asNumber(plain.carry(w[0], w[1]));
            case OBEY -> plain.obey(w[0]);
            case REPORT -> plain.report(w[0]);
            case PROBE -> asNumber(plain.probe());
            case TICK -> plain.tick();
            case WAITING -> plain.waiting(w[0], w[1]);
            case RULE -> plain.rule(w[0], w[1], w[2], w[3]);
            case HITS -> plain.hits(w[0], w[1]);
            case TAKEN -> plain.taken(w[0], w[1]);
            case KNOWN -> plain.known(w[0], w[1]);
            case PLACE -> plain.place(w[0]);
            default -> plain.course(w[0], w[1], w[2]);
        };
    }
}
