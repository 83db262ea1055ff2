import java.util.ArrayDeque;
import java.util.ArrayList;
import java.util.Arrays;
import java.util.HashMap;
import java.util.List;
import java.util.Map;
import java.util.Queue;

/**
 * The document once more, as near to its words as can be and with no thought of cost: nothing that
 * can be derived is kept, but for what the document itself keeps. ModelTest compares with it.
 */
final class PlainModel {
    static final class Message {
        int[] vector;
        int age;
        boolean mark;

        Message(int[] vector, int age, boolean mark) {
            this.vector = vector;
            this.age = age;
            this.mark = mark;
        }
    }

    static final class Wire {
        int p;
        int q;
        int cost;
        boolean cut;
    }

    static final class Host {
        int place;
        int subnet;
    }

    static final class Entry {
        int port;
        int at;
    }

    final class Port {
        Bridge bridge;
        int number;
        Wire wire;
        Host host;
        boolean router;
        boolean trunk;
        int network;
        int members = 1;
        Message held;
        boolean wasActive;
        int since;
        int state;

        boolean plugged() {
            return wire != null || host != null || router;
        }

        boolean up() {
            return host != null || router || wire != null && !wire.cut;
        }

        int place() {
            return 4 * bridge.number + number;
        }

        Port other() {
            return portAt(wire.p == place() ? wire.q : wire.p);
        }

        int[] offer() {
            if (held == null || held.vector[0] >= bridge.id) {
                return null;
            }
            int[] v = held.vector;
            return new int[] {v[0], v[1] + wire.cost, v[2], v[3], number};
        }

        int role() {
            if (!up()) {
                return 0;
            }
            if (bridge.rootPort() == this) {
                return 1;
            }
            return held == null || Arrays.compare(bridge.vector(number), held.vector) < 0 ? 2 : 3;
        }

        int stateByRole() {
            int role = role();
            if (role == 0 || role == 3) {
                return 0;
            }
            return time - since < delay ? 1 : time - since < 2 * delay ? 2 : 3;
        }
    }

    final class Bridge {
        int number;
        int id;
        int until;
        boolean notice;
        Port[] ports = new Port[4];
        Map<List<Integer>, Entry> known = new HashMap<>();

        Port rootPort() {
            Port best = null;
            for (Port port : ports) {
                int[] offer = port.offer();
                if (offer != null && (best == null || Arrays.compare(offer, best.offer()) < 0)) {
                    best = port;
                }
            }
            return best;
        }

        int root() {
            return rootPort() == null ? id : rootPort().offer()[0];
        }

        int distance() {
            return rootPort() == null ? 0 : rootPort().offer()[1];
        }

        int[] vector(int port) {
            return new int[] {root(), distance(), id, port};
        }

        boolean marked() {
            return rootPort() == null ? time < until : rootPort().held.mark;
        }
    }

    final int limit;
    final int delay;
    final int memory;
    int time;
    final List<Bridge> bridges = new ArrayList<>();
    final List<Wire> wires = new ArrayList<>();
    final List<Host> hosts = new ArrayList<>();
    int routerPlace = -1;
    int answer;
    int crossings;

    PlainModel(int limit, int delay, int memory) {
        this.limit = limit < 6 ? 6 : limit > 12 ? 12 : limit;
        this.delay = delay < 1 ? 1 : delay > 4 ? 4 : delay;
        this.memory = memory < 5 ? 5 : memory > 40 ? 40 : memory;
    }

    Port portAt(int p) {
        return p < 0 || p >= 4 * bridges.size() ? null : bridges.get(p / 4).ports[p % 4];
    }

    List<Port> allPorts() {
        List<Port> all = new ArrayList<>();
        for (Bridge b : bridges) {
            all.addAll(List.of(b.ports));
        }
        return all;
    }

    boolean free(int p) {
        return portAt(p) != null && !portAt(p).plugged();
    }

    void look(boolean notices) {
        for (Port port : allPorts()) {
            boolean active = port.role() == 1 || port.role() == 2;
            if (active && !port.wasActive) {
                port.since = time;
            }
            port.wasActive = active;
            int old = port.state;
            port.state = port.stateByRole();
            boolean became3 = old != 3 && port.state == 3;
            boolean left = (old == 2 || old == 3) && port.state != 2 && port.state != 3;
            if (notices && (became3 || left)) {
                port.bridge.notice = true;
            }
        }
    }

    int bridge(int priority) {
        if (bridges.size() == 6 || priority < 0 || priority > 7) {
            return -1;
        }
        Bridge b = new Bridge();
        b.number = bridges.size();
        b.id = 8 * priority + b.number;
        for (int k = 0; k < 4; k++) {
            b.ports[k] = new Port();
            b.ports[k].bridge = b;
            b.ports[k].number = k;
        }
        bridges.add(b);
        look(false);
        return b.number;
    }

    int wire(int p, int q, int cost) {
        if (wires.size() == 10 || !free(p) || !free(q) || p == q || cost < 1 || cost > 9) {
            return -1;
        }
        Wire w = new Wire();
        w.p = p;
        w.q = q;
        w.cost = cost;
        portAt(p).wire = w;
        portAt(q).wire = w;
        wires.add(w);
        look(false);
        return wires.size() - 1;
    }

    int host(int p, int subnet) {
        if (hosts.size() == 6 || !free(p) || subnet < 0 || subnet > 3) {
            return -1;
        }
        Host h = new Host();
        h.place = p;
        h.subnet = subnet;
        portAt(p).host = h;
        hosts.add(h);
        look(false);
        return hosts.size() - 1;
    }

    boolean router(int p) {
        if (routerPlace != -1 || !free(p)) {
            return false;
        }
        routerPlace = p;
        portAt(p).router = true;
        look(false);
        return true;
    }

    boolean access(int p, int network) {
        if (portAt(p) == null || network < 0 || network > 3) {
            return false;
        }
        portAt(p).trunk = false;
        portAt(p).network = network;
        portAt(p).members = 1 << network;
        return true;
    }

    boolean trunk(int p, int network, int members) {
        if (portAt(p) == null || network < 0 || network > 3 || members < 0 || members > 15) {
            return false;
        }
        portAt(p).trunk = true;
        portAt(p).network = network;
        portAt(p).members = members;
        return true;
    }

    boolean cut(int wire, boolean off) {
        if (wire < 0 || wire >= wires.size() || wires.get(wire).cut == off) {
            return false;
        }
        Wire w = wires.get(wire);
        w.cut = off;
        portAt(w.p).held = null;
        portAt(w.q).held = null;
        look(true);
        return true;
    }

    int tick(int n) {
        if (n < 0 || n > 60) {
            return -1;
        }
        for (int i = 0; i < n; i++) {
            stepAges();
            stepNotices();
            stepMessages();
            look(true);
            stepForget();
        }
        return time;
    }

    void stepAges() {
        time++;
        for (Port port : allPorts()) {
            if (port.held != null && ++port.held.age == limit) {
                port.held = null;
            }
        }
    }

    void stepNotices() {
        List<Bridge> getting = new ArrayList<>();
        for (Bridge b : bridges) {
            if (b.notice && b.rootPort() == null) {
                b.until = time + limit + delay;
            } else if (b.notice) {
                getting.add(b.rootPort().other().bridge);
            }
        }
        for (Bridge b : bridges) {
            b.notice = getting.contains(b);
        }
    }

    void stepMessages() {
        Map<Port, Message> arriving = new HashMap<>();
        for (Port port : allPorts()) {
            if (port.wire != null && !port.wire.cut && port.role() == 2) {
                Bridge b = port.bridge;
                int age = b.rootPort() == null ? 0 : b.rootPort().held.age;
                arriving.put(port.other(), new Message(b.vector(port.number), age, b.marked()));
            }
        }
        for (Port port : arriving.keySet()) {
            port.held = arriving.get(port);
        }
    }

    void stepForget() {
        for (Bridge b : bridges) {
            b.known.values().removeIf(e -> time - e.at >= memory);
            if (b.marked()) {
                b.known.values().removeIf(e -> time - e.at >= delay);
            }
        }
    }

    int role(int p) {
        return portAt(p) == null ? -1 : portAt(p).role();
    }

    int state(int p) {
        return portAt(p) == null ? -1 : portAt(p).state;
    }

    int root(int bridge) {
        if (bridge < 0 || bridge >= bridges.size()) {
            return -1;
        }
        Bridge b = bridges.get(bridge);
        return b.root() * 2048 + b.distance() * 2 + (b.marked() ? 1 : 0);
    }

    int held(int p, int what) {
        if (portAt(p) == null || portAt(p).held == null || what < 0 || what > 5) {
            return -1;
        }
        Message m = portAt(p).held;
        return what < 4 ? m.vector[what] : what == 4 ? m.age : m.mark ? 1 : 0;
    }

    int learned(int bridge, int network, int address) {
        if (bridge < 0 || bridge >= bridges.size()) {
            return -1;
        }
        Entry e = bridges.get(bridge).known.get(List.of(network, address));
        return e == null ? -1 : e.port;
    }

    int entries(int bridge) {
        return bridge < 0 || bridge >= bridges.size() ? -1 : bridges.get(bridge).known.size();
    }

    /** Network -1 where a host sends. */
    int frame(int source, int destination, int network) {
        int[] left = {60};
        int reached = 0;
        Queue<Object[]> arrivals = new ArrayDeque<>();
        Port first = portAt(source == 6 ? routerPlace : hosts.get(source).place);
        arrivals.add(new Object[] {first, source != 6 || network == first.network ? null : network});
        while (!arrivals.isEmpty()) {
            Object[] arrival = arrivals.remove();
            Port port = (Port) arrival[0];
            Integer tag = (Integer) arrival[1];
            for (Port out : outs(port, tag, source, destination)) {
                if (left[0] == 0) {
                    break;
                }
                left[0]--;
                crossings++;
                int inside = tag == null ? port.network : tag;
                Integer newTag = !out.trunk || out.network == inside ? null : (Integer) inside;
                if (out.wire != null) {
                    arrivals.add(new Object[] {out.other(), newTag});
                } else if (out.router) {
                    reached |= 64;
                } else if (newTag == null) {
                    reached |= 1 << hosts.indexOf(out.host);
                }
            }
        }
        return reached;
    }

    List<Port> outs(Port port, Integer tag, int source, int destination) {
        List<Port> outs = new ArrayList<>();
        if (port.state == 0 || port.state == 1 || tag != null && !port.trunk) {
            return outs;
        }
        int network = tag == null ? port.network : tag;
        if ((port.members & 1 << network) == 0) {
            return outs;
        }
        Entry e = new Entry();
        e.port = port.number;
        e.at = time;
        port.bridge.known.put(List.of(network, source), e);
        if (port.state == 2) {
            return outs;
        }
        Entry where = port.bridge.known.get(List.of(network, destination));
        for (Port out : port.bridge.ports) {
            boolean meant = where == null || where.port == out.number;
            if (meant && out != port && out.state == 3 && (out.members & 1 << network) != 0) {
                outs.add(out);
            }
        }
        return outs;
    }

    boolean isHost(int h) {
        return h >= 0 && h < hosts.size();
    }

    int send(int from, int to) {
        if (!isHost(from) || to != -1 && !isHost(to) && !(to == 6 && routerPlace != -1)) {
            return -1;
        }
        crossings = 0;
        return frame(from, to, -1);
    }

    int ask(int from, int to, int value) {
        if (!isHost(from) || !isHost(to)) {
            return -1;
        }
        int subnetFrom = hosts.get(from).subnet;
        int subnetTo = hosts.get(to).subnet;
        boolean one = subnetFrom == subnetTo;
        if (!one && routerPlace == -1) {
            return -1;
        }
        crossings = 0;
        int next = one ? to : 6;
        int back = one ? from : 6;
        // Each row: source, destination, network, who must be reached.
        List<int[]> frames = new ArrayList<>();
        frames.add(new int[] {from, -1, -1, next});
        frames.add(new int[] {next, from, subnetFrom, from});
        frames.add(new int[] {from, next, -1, next});
        if (next == 6) {
            frames.add(new int[] {6, -1, subnetTo, to});
            frames.add(new int[] {to, 6, -1, 6});
            frames.add(new int[] {6, to, subnetTo, to});
        }
        frames.add(new int[] {to, back, -1, back});
        if (back == 6) {
            frames.add(new int[] {6, from, subnetFrom, from});
        }
        int done = 0;
        for (int[] f : frames) {
            if ((frame(f[0], f[1], f[2]) & 1 << f[3]) == 0) {
                return done;
            }
            done++;
        }
        answer = 31 * value + to;
        return done;
    }
}
