import java.util.ArrayList;
import java.util.Arrays;

/**
 * Switches with two tables each, hosts, wires that hold frames, and a controller that learns where
 * links and hosts are and lays the way of each pair of hosts along a shortest path.
 *
 * <p>A port of a switch is written as one number here, 4 * switch + port, and called an end,
 * whether a link is there or not.
 */
public final class FlowFabric {
    public static final int NONE = -1;

    private static final int NO_ROOM_LEFT = -2;

    private static final int PORTS = 4;
    private static final int MOST_HOSTS = 6;
    private static final int MOST_GUARDS = 4;
    private static final int MOST_COURSES = 6;
    private static final int MOST_ON_WIRE = 6;
    private static final int ORDERS_THAT_SHUT = 16;
    private static final int REPORTS_THAT_SHUT = 8;
    private static final int REPORTS_THAT_HOLD_A_LINK = 20;
    private static final int LIFE_IN_IDLES = 4;

    private static final int MOST_PRIORITY = 9;
    private static final int MOST_MATCH = 511;

    private static final int VERDICT_RULES = 5;
    private static final int VERDICT_MISSED = 6;

    /** The port that a MISS names when the datagram came to the rules by a GO. */
    private static final int PORT_OF_GO = 4;

    private static final int PUT = 0;
    private static final int CUT = 1;
    private static final int BARRIER = 2;
    private static final int OUT = 3;
    private static final int GO = 4;
    private static final int PROBES = 5;

    private static final int MISS = 0;
    private static final int SEEN = 1;
    private static final int DONE = 2;
    private static final int NOROOM = 3;
    private static final int GONE = 4;
    private static final int DOWN = 5;

    private static final int CLEARING = 1;
    private static final int LAYING = 2;
    private static final int LAID = 3;

    private static final int[] NO_WAY = {};

    private final int idle;
    private final Node[] nodes;
    private final Host[] hosts;
    private final Controller controller;
    private int hostCount;
    private int now;

    public FlowFabric(int switches, int room, int idle) {
        Node[] made = new Node[within(switches, 2, 5)];
        for (int s = 0; s < made.length; s++) {
            made[s] = new Node(s, within(room, 1, 8));
        }
        this.nodes = made;
        this.idle = within(idle, 1, 9);
        this.hosts = new Host[MOST_HOSTS];
        this.controller = new Controller(made);
        this.hostCount = 0;
        this.now = 0;
    }

    public int attach(int node, int port) {
        if (!isPort(node, port) || !nodes[node].ports[port].isFree()) {
            return NONE;
        }
        if (hostCount >= MOST_HOSTS) {
            return NO_ROOM_LEFT;
        }
        Host host = new Host(hostCount, node, port);
        hosts[hostCount] = host;
        hostCount++;
        nodes[node].ports[port].host = host;
        return host.number;
    }

    public boolean link(int a, int p, int b, int q) {
        if (!isPort(a, p) || !isPort(b, q) || a == b) {
            return false;
        }
        Port one = nodes[a].ports[p];
        Port other = nodes[b].ports[q];
        if (!one.isFree() || !other.isFree()) {
            return false;
        }
        one.join(endOf(b, q));
        other.join(endOf(a, p));
        return true;
    }

    public boolean turn(int node, int port, boolean up) {
        if (!isEnd(node, port) || nodes[node].ports[port].up == up) {
            return false;
        }
        int other = nodes[node].ports[port].otherEnd;
        Node near = nodes[node];
        Node far = nodes[switchOf(other)];
        if (near.holdsLinks() || far.holdsLinks()) {
            return false;
        }
        near.turnPort(port, up);
        far.turnPort(portOf(other), up);
        return true;
    }

    public int guard(int node, int priority, int match, int verdict) {
        if (!isSwitch(node) || priority < 0 || priority > MOST_PRIORITY) {
            return NONE;
        }
        if (verdict < 0 || verdict > VERDICT_MISSED || !Guard.isMatch(match)) {
            return NONE;
        }
        ArrayList<Guard> guards = nodes[node].guards;
        if (guards.size() >= MOST_GUARDS) {
            return NO_ROOM_LEFT;
        }
        guards.add(new Guard(priority, match, verdict));
        return guards.size() - 1;
    }

    public int unguard(int node, int k) {
        if (!isGuard(node, k)) {
            return NONE;
        }
        return nodes[node].guards.remove(k).hits;
    }

    public boolean send(int from, int to, int number) {
        if (!isHost(from) || !isHost(to) || from == to) {
            return false;
        }
        Host host = hosts[from];
        nodes[host.node].comeIn(new Datagram(from, to, number), host.port, now);
        return true;
    }

    public boolean carry(int node, int port) {
        if (!isEnd(node, port) || nodes[node].ports[port].wire.isEmpty()) {
            return false;
        }
        Frame frame = nodes[node].ports[port].wire.remove(0);
        int other = nodes[node].ports[port].otherEnd;
        nodes[switchOf(other)].receive(frame, portOf(other), now);
        return true;
    }

    public int obey(int node) {
        if (!isSwitch(node) || nodes[node].orders.isEmpty()) {
            return NONE;
        }
        Message order = nodes[node].orders.remove(0);
        nodes[node].carryOut(order, now);
        return order.code;
    }

    public int report(int node) {
        if (!isSwitch(node) || nodes[node].reports.isEmpty()) {
            return NONE;
        }
        Message report = nodes[node].reports.remove(0);
        controller.handle(node, report);
        return report.code;
    }

    public boolean probe() {
        for (Node node : nodes) {
            if (node.orders.size() >= ORDERS_THAT_SHUT) {
                return false;
            }
        }
        Message probes = Message.ofValue(PROBES, NONE);
        for (Node node : nodes) {
            node.orders.add(probes);
        }
        return true;
    }

    public int tick() {
        now++;
        int gone = 0;
        for (Node node : nodes) {
            gone += node.dropOldRules(now, idle);
        }
        return gone;
    }

    public int waiting(int node, int what) {
        if (!isSwitch(node)) {
            return NONE;
        }
        if (what >= 0 && what < PORTS) {
            return nodes[node].ports[what].wire.size();
        }
        switch (what) {
            case 4:
                return nodes[node].orders.size();
            case 5:
                return nodes[node].reports.size();
            default:
                return NONE;
        }
    }

    public int rule(int node, int from, int to, int what) {
        if (!isSwitch(node)) {
            return NONE;
        }
        int index = nodes[node].ruleIndex(from, to);
        if (index == NONE) {
            return NONE;
        }
        Rule rule = nodes[node].rules.get(index);
        switch (what) {
            case 0:
                return rule.port;
            case 1:
                return rule.uses;
            case 2:
                return index;
            default:
                return NONE;
        }
    }

    public int hits(int node, int k) {
        if (!isGuard(node, k)) {
            return NONE;
        }
        return nodes[node].guards.get(k).hits;
    }

    public int taken(int host, int what) {
        if (!isHost(host)) {
            return NONE;
        }
        switch (what) {
            case 0:
                return hosts[host].takenCount;
            case 1:
                return hosts[host].latestNumber;
            case 2:
                return hosts[host].latestFrom;
            default:
                return NONE;
        }
    }

    public int known(int node, int port) {
        if (!isPort(node, port)) {
            return NONE;
        }
        return controller.otherEnds[endOf(node, port)];
    }

    public int place(int host) {
        if (!isHost(host)) {
            return NONE;
        }
        return controller.places[host];
    }

    public int course(int from, int to, int k) {
        Course course = controller.courseOf(from, to);
        if (course == null) {
            return NONE;
        }
        if (k >= 0 && k < course.way.length) {
            return switchOf(course.way[k]);
        }
        switch (k) {
            case -1:
                return course.state;
            case -2:
                return course.kept == null ? 0 : course.kept.number;
            default:
                return NONE;
        }
    }

    private boolean isSwitch(int node) {
        return node >= 0 && node < nodes.length;
    }

    private boolean isPort(int node, int port) {
        return isSwitch(node) && port >= 0 && port < PORTS;
    }

    private boolean isEnd(int node, int port) {
        return isPort(node, port) && nodes[node].ports[port].otherEnd != NONE;
    }

    private boolean isGuard(int node, int k) {
        return isSwitch(node) && k >= 0 && k < nodes[node].guards.size();
    }

    private boolean isHost(int host) {
        return host >= 0 && host < hostCount;
    }

    private static int within(int value, int least, int most) {
        return Math.max(least, Math.min(most, value));
    }

    private static int endOf(int node, int port) {
        return node * PORTS + port;
    }

    private static int switchOf(int end) {
        return end / PORTS;
    }

    private static int portOf(int end) {
        return end % PORTS;
    }

    private static final class Datagram {
        final int from;
        final int to;
        final int number;

        Datagram(int from, int to, int number) {
            this.from = from;
            this.to = to;
            this.number = number;
        }
    }

    /** What a wire holds: a datagram, or else (datagram is null) a probe that knows its origin. */
    private static final class Frame {
        final Datagram datagram;
        final int origin;

        private Frame(Datagram datagram, int origin) {
            this.datagram = datagram;
            this.origin = origin;
        }

        static Frame ofDatagram(Datagram datagram) {
            return new Frame(datagram, NONE);
        }

        static Frame ofProbe(int origin) {
            return new Frame(null, origin);
        }
    }

    /** An order or a report. It never changes, so several lists may hold the same one. */
    private static final class Message {
        final int code;
        /** A port, a set of ports as bits, or a wave. */
        final int value;
        /** The first host of a pair or datagram; of a SEEN the end where the probe was sent out. */
        final int from;
        final int to;
        final int number;

        private Message(int code, int value, int from, int to, int number) {
            this.code = code;
            this.value = value;
            this.from = from;
            this.to = to;
            this.number = number;
        }

        static Message ofValue(int code, int value) {
            return new Message(code, value, NONE, NONE, 0);
        }

        static Message ofPair(int code, int value, int from, int to) {
            return new Message(code, value, from, to, 0);
        }

        static Message ofDatagram(int code, int value, Datagram datagram) {
            return new Message(code, value, datagram.from, datagram.to, datagram.number);
        }

        static Message ofProbe(int port, int origin) {
            return new Message(SEEN, port, origin, NONE, 0);
        }

        Datagram toDatagram() {
            return new Datagram(from, to, number);
        }
    }

    private static final class Guard {
        private static final int MASK = 7;
        private static final int FROM_SHIFT = 3;
        private static final int TO_SHIFT = 6;

        final int priority;
        final int match;
        final int verdict;
        int hits;

        Guard(int priority, int match, int verdict) {
            this.priority = priority;
            this.match = match;
            this.verdict = verdict;
            this.hits = 0;
        }

        static boolean isMatch(int match) {
            return match >= 0 && match <= MOST_MATCH
                    && (match & MASK) <= PORTS
                    && (match >> FROM_SHIFT & MASK) <= MOST_HOSTS
                    && (match >> TO_SHIFT & MASK) <= MOST_HOSTS;
        }

        boolean matches(Datagram datagram, int port) {
            return fits(match & MASK, port)
                    && fits(match >> FROM_SHIFT & MASK, datagram.from)
                    && fits(match >> TO_SHIFT & MASK, datagram.to);
        }

        private static boolean fits(int wanted, int value) {
            return wanted == 0 || wanted == value + 1;
        }
    }

    private static final class Rule {
        final int from;
        final int to;
        final int port;
        final int made;
        int last;
        int uses;

        Rule(int from, int to, int port, int now) {
            this.from = from;
            this.to = to;
            this.port = port;
            this.made = now;
            this.last = now;
            this.uses = 0;
        }

        boolean isOld(int now, int idle) {
            return now - last >= idle || now - made >= LIFE_IN_IDLES * idle;
        }
    }

    private static final class Host {
        final int number;
        final int node;
        final int port;
        int takenCount;
        int latestNumber;
        int latestFrom;

        Host(int number, int node, int port) {
            this.number = number;
            this.node = node;
            this.port = port;
            this.takenCount = 0;
            this.latestNumber = 0;
            this.latestFrom = NONE;
        }

        void take(Datagram datagram) {
            takenCount++;
            latestNumber = datagram.number;
            latestFrom = datagram.from;
        }
    }

    private static final class Port {
        final ArrayList<Frame> wire;
        Host host;
        int otherEnd;
        boolean up;

        Port() {
            this.wire = new ArrayList<>();
            this.host = null;
            this.otherEnd = NONE;
            this.up = false;
        }

        boolean isFree() {
            return host == null && otherEnd == NONE;
        }

        void join(int end) {
            otherEnd = end;
            up = true;
        }

        void sendOut(Frame frame) {
            if (host != null) {
                if (frame.datagram != null && frame.datagram.to == host.number) {
                    host.take(frame.datagram);
                }
            } else if (up && wire.size() < MOST_ON_WIRE) {
                wire.add(frame);
            }
        }
    }

    /** A switch with its tables, its ports and its two lists. */
    private static final class Node {
        final int number;
        final int room;
        final Port[] ports;
        final ArrayList<Guard> guards;
        final ArrayList<Rule> rules;
        final ArrayList<Message> orders;
        final ArrayList<Message> reports;

        Node(int number, int room) {
            this.number = number;
            this.room = room;
            this.ports = new Port[PORTS];
            for (int p = 0; p < PORTS; p++) {
                this.ports[p] = new Port();
            }
            this.guards = new ArrayList<>();
            this.rules = new ArrayList<>();
            this.orders = new ArrayList<>();
            this.reports = new ArrayList<>();
        }

        boolean holdsLinks() {
            return reports.size() >= REPORTS_THAT_HOLD_A_LINK;
        }

        void turnPort(int port, boolean up) {
            ports[port].up = up;
            if (!up) {
                ports[port].wire.clear();
                reports.add(Message.ofValue(DOWN, port));
            }
        }

        void receive(Frame frame, int port, int now) {
            if (frame.datagram != null) {
                comeIn(frame.datagram, port, now);
            } else {
                addIfOpen(Message.ofProbe(port, frame.origin));
            }
        }

        void comeIn(Datagram datagram, int port, int now) {
            int verdict = VERDICT_RULES;
            Guard guard = strongestGuard(datagram, port);
            if (guard != null) {
                guard.hits++;
                verdict = guard.verdict;
            }
            if (verdict >= 0 && verdict < PORTS) {
                ports[verdict].sendOut(Frame.ofDatagram(datagram));
            } else if (verdict == VERDICT_RULES) {
                comeToRules(datagram, port, now);
            } else if (verdict == VERDICT_MISSED) {
                addIfOpen(Message.ofDatagram(MISS, port, datagram));
            }
        }

        private Guard strongestGuard(Datagram datagram, int port) {
            Guard strongest = null;
            for (int k = 0; k < guards.size(); k++) {
                Guard guard = guards.get(k);
                boolean stronger = strongest == null || guard.priority > strongest.priority;
                if (stronger && guard.matches(datagram, port)) {
                    strongest = guard;
                }
            }
            return strongest;
        }

        private void comeToRules(Datagram datagram, int port, int now) {
            int index = ruleIndex(datagram.from, datagram.to);
            if (index == NONE) {
                addIfOpen(Message.ofDatagram(MISS, port, datagram));
                return;
            }
            Rule rule = rules.get(index);
            rule.uses++;
            rule.last = now;
            ports[rule.port].sendOut(Frame.ofDatagram(datagram));
        }

        /** Adds a MISS or a SEEN: of all reports only these are lost when many wait. */
        private void addIfOpen(Message report) {
            if (reports.size() < REPORTS_THAT_SHUT) {
                reports.add(report);
            }
        }

        int ruleIndex(int from, int to) {
            for (int k = 0; k < rules.size(); k++) {
                Rule rule = rules.get(k);
                if (rule.from == from && rule.to == to) {
                    return k;
                }
            }
            return NONE;
        }

        void carryOut(Message order, int now) {
            switch (order.code) {
                case PUT:
                    putRule(order, now);
                    break;
                case CUT:
                    cutRule(order.from, order.to);
                    break;
                case BARRIER:
                    reports.add(Message.ofValue(DONE, order.value));
                    break;
                case OUT:
                    sendOutAt(order.value, order.toDatagram());
                    break;
                case GO:
                    comeToRules(order.toDatagram(), PORT_OF_GO, now);
                    break;
                case PROBES:
                    sendProbes();
                    break;
                default:
                    break;
            }
        }

        private void putRule(Message order, int now) {
            cutRule(order.from, order.to);
            if (rules.size() >= room) {
                reports.add(Message.ofPair(NOROOM, NONE, order.from, order.to));
            } else {
                rules.add(new Rule(order.from, order.to, order.value, now));
            }
        }

        private void cutRule(int from, int to) {
            int index = ruleIndex(from, to);
            if (index != NONE) {
                rules.remove(index);
            }
        }

        private void sendOutAt(int portBits, Datagram datagram) {
            Frame frame = Frame.ofDatagram(datagram);
            for (int p = 0; p < PORTS; p++) {
                if ((portBits >> p & 1) == 1) {
                    ports[p].sendOut(frame);
                }
            }
        }

        private void sendProbes() {
            for (int p = 0; p < PORTS; p++) {
                if (ports[p].otherEnd != NONE) {
                    ports[p].sendOut(Frame.ofProbe(endOf(number, p)));
                }
            }
        }

        int dropOldRules(int now, int idle) {
            int count = rules.size();
            int kept = 0;
            for (int seen = 0; seen < count; seen++) {
                Rule rule = rules.get(kept);
                if (rule.isOld(now, idle)) {
                    rules.remove(kept);
                    reports.add(Message.ofPair(GONE, NONE, rule.from, rule.to));
                } else {
                    kept++;
                }
            }
            return count - kept;
        }
    }

    /** A course; its way is the row of the ends that it leads out of, one for each switch. */
    private static final class Course {
        final int from;
        final int to;
        int state;
        int[] way;
        Datagram kept;
        int wave;
        /** While clearing: how many DONEs are still to come. */
        int awaited;
        /** While laying: the place in the way of the switch that it was led to. */
        int ledTo;

        Course(int from, int to, Datagram kept) {
            this.from = from;
            this.to = to;
            this.state = LAYING;
            this.way = NO_WAY;
            this.kept = kept;
            this.wave = 0;
            this.awaited = 0;
            this.ledTo = 0;
        }

        boolean isLayingOrLaid() {
            return state == LAYING || state == LAID;
        }

        /** After this it is still to be led to the last switch of the way. */
        void beginLaying(int[] newWay) {
            state = LAYING;
            way = newWay;
            ledTo = newWay.length;
        }

        boolean endsWith(int end) {
            return way.length > 0 && way[way.length - 1] == end;
        }

        boolean leadsOutOf(int end) {
            for (int out : way) {
                if (out == end) {
                    return true;
                }
            }
            return false;
        }

        boolean passes(int node) {
            for (int out : way) {
                if (switchOf(out) == node) {
                    return true;
                }
            }
            return false;
        }
    }

    private static final class Controller {
        final Node[] nodes;
        final int[] otherEnds;
        final boolean[] marked;
        final int[] places;
        final ArrayList<Course> courses;
        /** Room for findWay: how many steps each switch is from the last one of the way. */
        final int[] steps;
        int waves;

        Controller(Node[] nodes) {
            int ends = nodes.length * PORTS;
            this.nodes = nodes;
            this.otherEnds = new int[ends];
            this.marked = new boolean[ends];
            this.places = new int[MOST_HOSTS];
            this.courses = new ArrayList<>();
            this.steps = new int[nodes.length];
            this.waves = 0;
            Arrays.fill(this.otherEnds, NONE);
            Arrays.fill(this.places, NONE);
        }

        void handle(int node, Message report) {
            switch (report.code) {
                case MISS:
                    handleMiss(node, report.value, report.toDatagram());
                    break;
                case SEEN:
                    handleSeen(endOf(node, report.value), report.from);
                    break;
                case DONE:
                    handleDone(report.value);
                    break;
                case NOROOM:
                    handleNoRoom(report.from, report.to);
                    break;
                case GONE:
                    handleGone(node, report.from, report.to);
                    break;
                case DOWN:
                    handleDown(endOf(node, report.value));
                    break;
                default:
                    break;
            }
        }

        private void handleMiss(int node, int port, Datagram datagram) {
            if (port != PORT_OF_GO && !marked[endOf(node, port)]) {
                places[datagram.from] = endOf(node, port);
            }
            Course course = courseOf(datagram.from, datagram.to);
            if (course != null) {
                course.kept = datagram;
                if (course.state == LAID) {
                    clearCourse(course);
                }
            } else if (places[datagram.to] == NONE) {
                orderOuts(node, port, datagram);
            } else {
                makeCourse(datagram);
            }
        }

        private void orderOuts(int node, int port, Datagram datagram) {
            for (int s = 0; s < nodes.length; s++) {
                int portBits = 0;
                for (int p = 0; p < PORTS; p++) {
                    boolean cameInHere = s == node && p == port;
                    if (!marked[endOf(s, p)] && !cameInHere) {
                        portBits |= 1 << p;
                    }
                }
                if (portBits != 0 && nodes[s].orders.size() < ORDERS_THAT_SHUT) {
                    nodes[s].orders.add(Message.ofDatagram(OUT, portBits, datagram));
                }
            }
        }

        private void makeCourse(Datagram datagram) {
            if (courses.size() >= MOST_COURSES) {
                return;
            }
            int[] way = findWay(datagram.from, datagram.to);
            if (way.length == 0) {
                return;
            }
            Course course = new Course(datagram.from, datagram.to, datagram);
            courses.add(course);
            course.beginLaying(way);
            leadAhead(course);
        }

        private void handleSeen(int end, int origin) {
            marked[end] = true;
            marked[origin] = true;
            otherEnds[end] = origin;
            otherEnds[origin] = end;
            for (int host = 0; host < MOST_HOSTS; host++) {
                if (places[host] == end || places[host] == origin) {
                    places[host] = NONE;
                }
            }
            for (int k = 0; k < courses.size(); k++) {
                Course course = courses.get(k);
                boolean hurt = course.endsWith(end) || course.endsWith(origin);
                if (hurt && course.isLayingOrLaid()) {
                    clearCourse(course);
                }
            }
        }

        private void handleDone(int wave) {
            for (int k = 0; k < courses.size(); k++) {
                Course course = courses.get(k);
                if (course.wave == wave) {
                    if (course.state == CLEARING) {
                        countDone(course, k);
                    } else if (course.state == LAYING && course.ledTo > 0) {
                        leadAhead(course);
                    } else if (course.state == LAYING) {
                        finishLaying(course);
                    }
                    return;
                }
            }
        }

        private void countDone(Course course, int index) {
            course.awaited--;
            if (course.awaited > 0) {
                return;
            }
            int[] way = course.kept == null ? NO_WAY : findWay(course.from, course.to);
            if (way.length == 0) {
                courses.remove(index);
            } else {
                course.beginLaying(way);
                leadAhead(course);
            }
        }

        private void finishLaying(Course course) {
            course.state = LAID;
            if (course.kept != null) {
                Node first = nodes[switchOf(course.way[0])];
                first.orders.add(Message.ofDatagram(GO, NONE, course.kept));
                course.kept = null;
            }
        }

        private void handleNoRoom(int from, int to) {
            Course course = courseOf(from, to);
            if (course != null && course.state == LAYING) {
                course.kept = null;
                clearCourse(course);
            }
        }

        private void handleGone(int node, int from, int to) {
            Course course = courseOf(from, to);
            if (course != null && course.isLayingOrLaid() && course.passes(node)) {
                clearCourse(course);
            }
        }

        private void handleDown(int end) {
            int other = otherEnds[end];
            if (other == NONE) {
                return;
            }
            otherEnds[end] = NONE;
            otherEnds[other] = NONE;
            for (int k = 0; k < courses.size(); k++) {
                Course course = courses.get(k);
                boolean hurt = course.leadsOutOf(end) || course.leadsOutOf(other);
                if (hurt && course.isLayingOrLaid()) {
                    clearCourse(course);
                }
            }
        }

        Course courseOf(int from, int to) {
            for (int k = 0; k < courses.size(); k++) {
                Course course = courses.get(k);
                if (course.from == from && course.to == to) {
                    return course;
                }
            }
            return null;
        }

        private void clearCourse(Course course) {
            waves++;
            course.state = CLEARING;
            course.wave = waves;
            course.awaited = course.way.length;
            Message cut = Message.ofPair(CUT, NONE, course.from, course.to);
            Message barrier = Message.ofValue(BARRIER, waves);
            for (int end : course.way) {
                nodes[switchOf(end)].orders.add(cut);
                nodes[switchOf(end)].orders.add(barrier);
            }
        }

        /** Leads a course to the switch of its way ahead of the one that it was led to. */
        private void leadAhead(Course course) {
            waves++;
            course.wave = waves;
            course.ledTo--;
            int end = course.way[course.ledTo];
            Node node = nodes[switchOf(end)];
            node.orders.add(Message.ofPair(PUT, portOf(end), course.from, course.to));
            node.orders.add(Message.ofValue(BARRIER, waves));
        }

        /** The way from a host to another one as a row of ends; empty if there is none. */
        private int[] findWay(int from, int to) {
            if (places[from] == NONE || places[to] == NONE) {
                return NO_WAY;
            }
            countSteps(switchOf(places[to]));
            int node = switchOf(places[from]);
            if (steps[node] == NONE) {
                return NO_WAY;
            }
            int[] way = new int[steps[node] + 1];
            for (int k = 0; k < way.length - 1; k++) {
                int end = nextEnd(node);
                if (end == NONE) {
                    return NO_WAY;
                }
                way[k] = end;
                node = switchOf(otherEnds[end]);
            }
            way[way.length - 1] = places[to];
            return way;
        }

        private void countSteps(int goal) {
            for (int s = 0; s < steps.length; s++) {
                steps[s] = s == goal ? 0 : NONE;
            }
            for (int round = 0; round < steps.length; round++) {
                for (int end = 0; end < otherEnds.length; end++) {
                    int other = otherEnds[end];
                    if (steps[switchOf(end)] == NONE && other != NONE
                            && steps[switchOf(other)] == round) {
                        steps[switchOf(end)] = round + 1;
                    }
                }
            }
        }

        /** The end that leads one step nearer the goal, to the least switch, by the least port. */
        private int nextEnd(int node) {
            int best = NONE;
            for (int p = 0; p < PORTS; p++) {
                int end = endOf(node, p);
                int other = otherEnds[end];
                boolean nearer = other != NONE && steps[switchOf(other)] == steps[node] - 1;
                if (nearer && (best == NONE || switchOf(other) < switchOf(otherEnds[best]))) {
                    best = end;
                }
            }
            return best;
        }
    }
}
