import java.util.ArrayList;
import java.util.Comparator;
import java.util.LinkedHashMap;
import java.util.LinkedList;
import java.util.List;
import java.util.Map;
import java.util.TreeMap;
import java.util.TreeSet;

/**
 * The document once more, written without regard for room or speed and in another shape than the
 * program: random runs are held against it.
 */
final class PlainFabric {
    record Spot(int node, int port) {}

    record Pair(int from, int to) {}

    record Data(Pair pair, int number) {}

    /** What is on a wire: exactly one of the two is there. */
    record Frame(Data data, Spot origin) {}

    record Order(String kind, Pair pair, int port, int wave, TreeSet<Integer> ports, Data data) {}

    record Report(String kind, int port, Spot origin, int wave, Pair pair, Data data) {}

    static final class Guard {
        int priority;
        int port;
        int from;
        int to;
        int verdict;
        int hits;
    }

    static final class Rule {
        int port;
        int uses;
        int made;
        int last;
    }

    static final class Course {
        String state;
        List<Spot> way;
        Data kept;
        int wave;
        int dones;
        int led;
    }

    static final List<String> ORDERS = List.of("PUT", "CUT", "BARRIER", "OUT", "GO", "PROBES");
    static final List<String> REPORTS = List.of("MISS", "SEEN", "DONE", "NOROOM", "GONE", "DOWN");
    static final List<String> STATES = List.of("none", "clearing", "laying", "laid");

    final int s;
    final int room;
    final int idle;
    int now = 0;
    int wave = 0;
    final List<Spot> hosts = new ArrayList<>();
    final List<List<Data>> took = new ArrayList<>();
    final Map<Spot, Spot> links = new LinkedHashMap<>();
    final TreeSet<Integer> downs = new TreeSet<>();
    final Map<Spot, LinkedList<Frame>> wires = new LinkedHashMap<>();
    final List<List<Guard>> guards = new ArrayList<>();
    final List<LinkedHashMap<Pair, Rule>> rules = new ArrayList<>();
    final List<LinkedList<Order>> orders = new ArrayList<>();
    final List<LinkedList<Report>> reports = new ArrayList<>();
    final Map<Spot, Spot> knownEnds = new LinkedHashMap<>();
    final List<Spot> marked = new ArrayList<>();
    final Map<Integer, Spot> places = new TreeMap<>();
    final LinkedHashMap<Pair, Course> courses = new LinkedHashMap<>();
    /** How often what happened, so that a test can ask whether its runs reach it. */
    final Map<String, Integer> events;

    PlainFabric(int switches, int room, int idle, Map<String, Integer> events) {
        this.s = switches < 2 ? 2 : switches > 5 ? 5 : switches;
        this.room = room < 1 ? 1 : room > 8 ? 8 : room;
        this.idle = idle < 1 ? 1 : idle > 9 ? 9 : idle;
        this.events = events;
        for (int i = 0; i < s; i++) {
            guards.add(new ArrayList<>());
            rules.add(new LinkedHashMap<>());
            orders.add(new LinkedList<>());
            reports.add(new LinkedList<>());
            for (int p = 0; p < 4; p++) {
                wires.put(new Spot(i, p), new LinkedList<>());
            }
        }
    }

    private void happened(String event) {
        events.merge(event, 1, Integer::sum);
    }

    private boolean there(int node, int port) {
        return wires.containsKey(new Spot(node, port));
    }

    private boolean free(int node, int port) {
        return !hosts.contains(new Spot(node, port)) && !links.containsKey(new Spot(node, port));
    }

    private static int code(Spot spot) {
        return spot == null ? -1 : 4 * spot.node + spot.port;
    }

    /** One number for a link, the same from both of its ends. */
    private int linkOf(Spot end) {
        return Math.min(code(end), code(links.get(end)));
    }

    boolean isDown(Spot end) {
        return downs.contains(linkOf(end));
    }

    int attach(int node, int port) {
        if (!there(node, port) || !free(node, port)) {
            return -1;
        }
        if (hosts.size() == 6) {
            return -2;
        }
        hosts.add(new Spot(node, port));
        took.add(new ArrayList<>());
        return hosts.size() - 1;
    }

    boolean link(int a, int p, int b, int q) {
        if (!there(a, p) || !there(b, q) || !free(a, p) || !free(b, q) || a == b) {
            return false;
        }
        links.put(new Spot(a, p), new Spot(b, q));
        links.put(new Spot(b, q), new Spot(a, p));
        return true;
    }

    boolean turn(int node, int port, boolean up) {
        Spot near = new Spot(node, port);
        Spot far = links.get(near);
        if (far == null || isDown(near) != up) {
            return false;
        }
        if (reports.get(near.node).size() >= 20 || reports.get(far.node).size() >= 20) {
            happened("turn refused for reports");
            return false;
        }
        if (up) {
            downs.remove(linkOf(near));
            return true;
        }
        downs.add(linkOf(near));
        for (Spot end : List.of(near, far)) {
            if (!wires.get(end).isEmpty()) {
                happened("frames lost by turn");
            }
            wires.get(end).clear();
            reports.get(end.node).add(new Report("DOWN", end.port, null, 0, null, null));
        }
        return true;
    }

    int guard(int node, int priority, int match, int verdict) {
        if (node < 0 || node >= s || priority < 0 || priority > 9 || verdict < 0 || verdict > 6) {
            return -1;
        }
        if (match < 0 || match > 511) {
            return -1;
        }
        Guard made = new Guard();
        made.priority = priority;
        made.verdict = verdict;
        made.port = match % 8 - 1;
        made.from = match / 8 % 8 - 1;
        made.to = match / 64 - 1;
        if (made.port > 3 || made.from > 5 || made.to > 5) {
            return -1;
        }
        if (guards.get(node).size() == 4) {
            return -2;
        }
        guards.get(node).add(made);
        return guards.get(node).size() - 1;
    }

    int unguard(int node, int k) {
        if (node < 0 || node >= s || k < 0 || k >= guards.get(node).size()) {
            return -1;
        }
        return guards.get(node).remove(k).hits;
    }

    boolean send(int from, int to, int number) {
        if (from < 0 || from >= hosts.size() || to < 0 || to >= hosts.size() || from == to) {
            return false;
        }
        comesIn(new Data(new Pair(from, to), number), hosts.get(from));
        return true;
    }

    private void comesIn(Data data, Spot spot) {
        List<Guard> matching = new ArrayList<>();
        for (Guard guard : guards.get(spot.node)) {
            if ((guard.port == -1 || guard.port == spot.port)
                    && (guard.from == -1 || guard.from == data.pair.from)
                    && (guard.to == -1 || guard.to == data.pair.to)) {
                matching.add(guard);
            }
        }
        // The sort is stable: of equal priorities the one made first stays first.
        matching.sort(Comparator.comparingInt(guard -> -guard.priority));
        int verdict = 5;
        if (!matching.isEmpty()) {
            matching.get(0).hits++;
            verdict = matching.get(0).verdict;
        }
        happened("verdict " + verdict);
        if (verdict <= 3) {
            sendOut(new Frame(data, null), new Spot(spot.node, verdict));
        } else if (verdict == 5) {
            comesToRules(data, spot);
        } else if (verdict == 6) {
            missed(data, spot);
        }
    }

    private void comesToRules(Data data, Spot spot) {
        Rule rule = rules.get(spot.node).get(data.pair);
        if (rule == null) {
            missed(data, spot);
            return;
        }
        rule.uses++;
        rule.last = now;
        happened("rule used");
        sendOut(new Frame(data, null), new Spot(spot.node, rule.port));
    }

    private void missed(Data data, Spot spot) {
        if (spot.port == 4) {
            happened("missed by a GO");
        }
        addUnlessEight(spot.node, new Report("MISS", spot.port, null, 0, null, data));
    }

    private void addUnlessEight(int node, Report report) {
        if (reports.get(node).size() >= 8) {
            happened(report.kind + " lost");
        } else {
            reports.get(node).add(report);
        }
    }

    private void sendOut(Frame frame, Spot spot) {
        int host = hosts.indexOf(spot);
        if (host >= 0 && frame.data != null && frame.data.pair.to == host) {
            took.get(host).add(frame.data);
            happened("taken");
        } else if (links.containsKey(spot) && !isDown(spot)
                && wires.get(spot).size() < 6) {
            wires.get(spot).add(frame);
        } else {
            happened(links.containsKey(spot) ? "lost at a link" : "lost elsewhere");
        }
    }

    boolean carry(int node, int port) {
        Spot end = new Spot(node, port);
        if (!links.containsKey(end) || wires.get(end).isEmpty()) {
            return false;
        }
        Frame frame = wires.get(end).removeFirst();
        Spot far = links.get(end);
        if (frame.data != null) {
            comesIn(frame.data, far);
        } else {
            addUnlessEight(far.node, new Report("SEEN", far.port, frame.origin, 0, null, null));
        }
        return true;
    }

    int obey(int node) {
        if (node < 0 || node >= s || orders.get(node).isEmpty()) {
            return -1;
        }
        Order order = orders.get(node).removeFirst();
        LinkedHashMap<Pair, Rule> table = rules.get(node);
        switch (order.kind) {
            case "PUT" -> {
                if (!table.containsKey(order.pair) && table.size() >= room) {
                    reports.get(node).add(new Report("NOROOM", 0, null, 0, order.pair, null));
                } else {
                    table.remove(order.pair);
                    Rule rule = new Rule();
                    rule.port = order.port;
                    rule.made = now;
                    rule.last = now;
                    table.put(order.pair, rule);
                }
            }
            case "CUT" -> table.remove(order.pair);
            case "BARRIER" -> reports.get(node).add(
                    new Report("DONE", 0, null, order.wave, null, null));
            case "OUT" -> {
                for (int port : order.ports) {
                    sendOut(new Frame(order.data, null), new Spot(node, port));
                }
            }
            case "GO" -> comesToRules(order.data, new Spot(node, 4));
            default -> {
                for (int port = 0; port < 4; port++) {
                    Spot end = new Spot(node, port);
                    if (links.containsKey(end)) {
                        sendOut(new Frame(null, end), end);
                    }
                }
            }
        }
        return ORDERS.indexOf(order.kind);
    }

    int report(int node) {
        if (node < 0 || node >= s || reports.get(node).isEmpty()) {
            return -1;
        }
        Report report = reports.get(node).removeFirst();
        Spot here = new Spot(node, report.port);
        switch (report.kind) {
            case "MISS" -> hearMiss(here, report.data);
            case "SEEN" -> hearSeen(here, report.origin);
            case "DONE" -> hearDone(report.wave);
            case "NOROOM" -> {
                Course course = courses.get(report.pair);
                if (course != null && course.state.equals("laying")) {
                    course.kept = null;
                    clear(report.pair, "NOROOM");
                }
            }
            case "GONE" -> {
                if (standing(report.pair) && switchesOf(courses.get(report.pair)).contains(node)) {
                    clear(report.pair, "GONE");
                }
            }
            default -> hearDown(here);
        }
        return REPORTS.indexOf(report.kind);
    }

    private boolean standing(Pair pair) {
        Course course = courses.get(pair);
        return course != null && !course.state.equals("clearing");
    }

    private static List<Integer> switchesOf(Course course) {
        List<Integer> row = new ArrayList<>();
        course.way.forEach(spot -> row.add(spot.node));
        return row;
    }

    private void hearMiss(Spot here, Data data) {
        if (here.port != 4 && !marked.contains(here)) {
            places.put(data.pair.from, here);
        }
        Course course = courses.get(data.pair);
        if (course != null) {
            happened("kept by one " + course.state);
            course.kept = data;
            if (course.state.equals("laid")) {
                clear(data.pair, "MISS");
            }
            return;
        }
        if (!places.containsKey(data.pair.to)) {
            for (int node = 0; node < s; node++) {
                TreeSet<Integer> ports = new TreeSet<>(List.of(0, 1, 2, 3));
                for (int port = 0; port < 4; port++) {
                    Spot spot = new Spot(node, port);
                    if (marked.contains(spot) || spot.equals(here)) {
                        ports.remove(port);
                    }
                }
                if (ports.isEmpty()) {
                    happened("no port left for an OUT");
                } else if (orders.get(node).size() >= 16) {
                    happened("OUT lost");
                } else {
                    orders.get(node).add(new Order("OUT", null, 0, 0, ports, data));
                }
            }
            return;
        }
        List<Spot> way = way(data.pair);
        if (courses.size() >= 6) {
            happened("six courses already");
        } else if (way == null) {
            happened("no way for a new course");
        } else {
            Course made = new Course();
            made.kept = data;
            courses.put(data.pair, made);
            lay(data.pair, way);
        }
    }

    private void hearSeen(Spot here, Spot origin) {
        marked.add(here);
        marked.add(origin);
        knownEnds.put(here, origin);
        knownEnds.put(origin, here);
        if (places.values().removeIf(spot -> spot.equals(here) || spot.equals(origin))) {
            happened("place lost");
        }
        for (Pair pair : new ArrayList<>(courses.keySet())) {
            List<Spot> way = courses.get(pair).way;
            Spot last = way.get(way.size() - 1);
            if (standing(pair) && (last.equals(here) || last.equals(origin))) {
                clear(pair, "SEEN");
            }
        }
    }

    private void hearDown(Spot here) {
        Spot other = knownEnds.get(here);
        if (other == null) {
            return;
        }
        knownEnds.remove(here);
        knownEnds.remove(other);
        for (Pair pair : new ArrayList<>(courses.keySet())) {
            List<Spot> way = courses.get(pair).way;
            if (standing(pair) && (way.contains(here) || way.contains(other))) {
                clear(pair, "DOWN");
            }
        }
    }

    private void hearDone(int number) {
        for (Pair pair : new ArrayList<>(courses.keySet())) {
            Course course = courses.get(pair);
            if (course.wave != number) {
                continue;
            }
            if (course.state.equals("clearing")) {
                course.dones--;
                if (course.dones == 0) {
                    List<Spot> way = course.kept == null ? null : way(pair);
                    if (way != null) {
                        happened("laid again");
                        lay(pair, way);
                    } else {
                        happened(course.kept == null ? "gone, kept none" : "gone, no way");
                        courses.remove(pair);
                    }
                }
            } else if (course.state.equals("laying")) {
                if (course.led == 0) {
                    course.state = "laid";
                    if (course.kept != null) {
                        orders.get(course.way.get(0).node)
                                .add(new Order("GO", null, 0, 0, null, course.kept));
                        course.kept = null;
                    }
                } else {
                    lead(pair, course.led - 1);
                }
            }
        }
    }

    private void clear(Pair pair, String cause) {
        Course course = courses.get(pair);
        happened(course.state + " cleared by " + cause);
        course.state = "clearing";
        course.wave = ++wave;
        course.dones = course.way.size();
        for (Spot spot : course.way) {
            orders.get(spot.node).add(new Order("CUT", pair, 0, 0, null, null));
            orders.get(spot.node).add(new Order("BARRIER", null, 0, course.wave, null, null));
        }
    }

    private void lay(Pair pair, List<Spot> way) {
        Course course = courses.get(pair);
        course.way = way;
        course.state = "laying";
        happened("way of " + way.size());
        lead(pair, way.size() - 1);
    }

    private void lead(Pair pair, int index) {
        Course course = courses.get(pair);
        course.led = index;
        course.wave = ++wave;
        Spot spot = course.way.get(index);
        orders.get(spot.node).add(new Order("PUT", pair, spot.port, 0, null, null));
        orders.get(spot.node).add(new Order("BARRIER", null, 0, course.wave, null, null));
    }

    /** Looks at every row of switches there is, the least first, and takes the first shortest. */
    private List<Spot> way(Pair pair) {
        Spot start = places.get(pair.from);
        Spot goal = places.get(pair.to);
        if (start == null || goal == null) {
            return null;
        }
        List<List<Integer>> rows = new ArrayList<>();
        grow(new ArrayList<>(List.of(start.node)), goal.node, rows);
        List<Integer> best = null;
        int asShort = 0;
        for (List<Integer> row : rows) {
            asShort = best == null || row.size() < best.size() ? 1
                    : row.size() == best.size() ? asShort + 1 : asShort;
            if (best == null || row.size() < best.size()) {
                best = row;
            }
        }
        if (best == null) {
            return null;
        }
        if (asShort > 1) {
            happened("several shortest rows");
        }
        List<Spot> way = new ArrayList<>();
        for (int k = 0; k + 1 < best.size(); k++) {
            way.add(new Spot(best.get(k), portBetween(best.get(k), best.get(k + 1))));
        }
        way.add(goal);
        return way;
    }

    private void grow(List<Integer> row, int goal, List<List<Integer>> rows) {
        int last = row.get(row.size() - 1);
        if (last == goal) {
            rows.add(new ArrayList<>(row));
            return;
        }
        for (int next = 0; next < s; next++) {
            if (!row.contains(next) && portBetween(last, next) >= 0) {
                row.add(next);
                grow(row, goal, rows);
                row.remove(row.size() - 1);
            }
        }
    }

    private int portBetween(int node, int next) {
        for (int port = 0; port < 4; port++) {
            Spot other = knownEnds.get(new Spot(node, port));
            if (other != null && other.node == next) {
                return port;
            }
        }
        return -1;
    }

    boolean probe() {
        for (LinkedList<Order> list : orders) {
            if (list.size() >= 16) {
                happened("probe refused");
                return false;
            }
        }
        orders.forEach(list -> list.add(new Order("PROBES", null, 0, 0, null, null)));
        return true;
    }

    int tick() {
        now++;
        int gone = 0;
        for (int node = 0; node < s; node++) {
            for (Pair pair : new ArrayList<>(rules.get(node).keySet())) {
                Rule rule = rules.get(node).get(pair);
                boolean unused = rule.last <= now - idle;
                boolean old = rule.made <= now - 4 * idle;
                if (unused || old) {
                    happened(unused ? "rule gone, unused" : "rule gone, old");
                    rules.get(node).remove(pair);
                    reports.get(node).add(new Report("GONE", 0, null, 0, pair, null));
                    gone++;
                }
            }
        }
        return gone;
    }

    int waiting(int node, int what) {
        if (node < 0 || node >= s || what < 0 || what > 5) {
            return -1;
        }
        return what == 4 ? orders.get(node).size()
                : what == 5 ? reports.get(node).size()
                : wires.get(new Spot(node, what)).size();
    }

    int rule(int node, int from, int to, int what) {
        if (node < 0 || node >= s) {
            return -1;
        }
        Rule rule = rules.get(node).get(new Pair(from, to));
        if (rule == null) {
            return -1;
        }
        return switch (what) {
            case 0 -> rule.port;
            case 1 -> rule.uses;
            case 2 -> new ArrayList<>(rules.get(node).keySet()).indexOf(new Pair(from, to));
            default -> -1;
        };
    }

    int hits(int node, int k) {
        return node < 0 || node >= s || k < 0 || k >= guards.get(node).size()
                ? -1 : guards.get(node).get(k).hits;
    }

    int taken(int host, int what) {
        if (host < 0 || host >= hosts.size() || what < 0 || what > 2) {
            return -1;
        }
        List<Data> all = took.get(host);
        if (what == 0) {
            return all.size();
        }
        if (all.isEmpty()) {
            return what == 1 ? 0 : -1;
        }
        Data latest = all.get(all.size() - 1);
        return what == 1 ? latest.number : latest.pair.from;
    }

    int known(int node, int port) {
        return code(knownEnds.get(new Spot(node, port)));
    }

    int place(int host) {
        return code(places.get(host));
    }

    int course(int from, int to, int k) {
        Course course = courses.get(new Pair(from, to));
        if (course == null || k < -2 || k >= course.way.size()) {
            return -1;
        }
        if (k == -2) {
            return course.kept == null ? 0 : course.kept.number;
        }
        return k == -1 ? STATES.indexOf(course.state) : course.way.get(k).node;
    }
}
