import java.util.Random;

/** Random runs of calls, the same ones each time, whose answers must be those of the PlainModel. */
public final class ModelTest {
    private static final int RUNS = 3000;
    private static final int CALLS = 120;

    private final Check check;
    private final Random random;
    private final String run;
    private final CampusNet net;
    private final PlainModel model;
    private final int ticks;
    private final boolean isTagged;

    private ModelTest(Check check, int seed) {
        this.check = check;
        random = new Random(seed);
        run = "run " + seed + ": ";
        int limit = random.nextInt(12) + 3;
        int delay = random.nextInt(7) - 1;
        int memory = random.nextInt(50);
        net = new CampusNet(limit, delay, memory);
        model = new PlainModel(limit, delay, memory);
        ticks = 1 + random.nextInt(12);
        isTagged = random.nextInt(3) == 0;
    }

    public static void main(String[] args) {
        Check check = new Check();
        for (int seed = 0; seed < RUNS; seed++) {
            new ModelTest(check, seed).go();
        }
        check.end();
    }

    private void go() {
        if (random.nextInt(4) != 0) {
            build();
        }
        for (int i = 0; i < CALLS; i++) {
            call(random.nextInt(100));
            if (random.nextInt(8) == 0) {
                compare();
            }
        }
        compare();
    }

    /** One of -1 .. n + 1, so that it is sometimes just too small or too great. */
    private int around(int n) {
        return random.nextInt(n + 3) - 1;
    }

    private int place() {
        int places = 4 * model.bridges.size();
        return random.nextInt(20) == 0 ? around(24) : random.nextInt(Math.max(1, places));
    }

    private int anyHost() {
        int hosts = model.hosts.size();
        return random.nextInt(12) == 0 ? around(6) : random.nextInt(Math.max(1, hosts));
    }

    private void build() {
        int bridges = 1 + random.nextInt(6);
        for (int b = 0; b < bridges; b++) {
            bridge();
        }
        int wires = random.nextInt(11);
        if (random.nextBoolean() && bridges > 1) {
            for (int b = 0; b < bridges; b++) {
                wire(4 * b, 4 * ((b + 1) % bridges) + 1);
            }
        }
        for (int w = 0; w < wires; w++) {
            wire(place(), place());
        }
        int hosts = 1 + random.nextInt(6);
        for (int h = 0; h < 2 * hosts; h++) {
            host();
        }
        router();
        router();
        if (isTagged) {
            tagEverything();
        }
        if (random.nextBoolean()) {
            tick(30);
        }
    }

    /** Wires become trunks of most networks, hosts mostly sit at access ports of their subnets. */
    private void tagEverything() {
        for (int p = 0; p < 4 * model.bridges.size(); p++) {
            PlainModel.Port port = model.portAt(p);
            if (port.host != null && random.nextInt(15) != 0) {
                access(p, port.host.subnet);
            } else if (random.nextInt(10) != 0) {
                int nativeNetwork = random.nextInt(6) == 0 ? random.nextInt(4) : 0;
                trunk(p, nativeNetwork, random.nextInt(4) == 0 ? random.nextInt(16) : 15);
            }
        }
    }

    private void bridge() {
        int priority = random.nextInt(10) == 0 ? around(8) : random.nextInt(8);
        check.due(run + "bridge", net.bridge(priority), model.bridge(priority));
    }

    private void wire(int p, int q) {
        int cost = random.nextInt(10) == 0 ? around(10) : 1 + random.nextInt(9);
        check.due(run + "wire", net.wire(p, q, cost), model.wire(p, q, cost));
    }

    private void host() {
        int p = place();
        int subnet = random.nextInt(10) == 0 ? around(4) : random.nextInt(isTagged ? 4 : 2);
        check.due(run + "host", net.host(p, subnet), model.host(p, subnet));
    }

    private void router() {
        int p = place();
        check.due(run + "router", net.router(p), model.router(p));
    }

    private void access(int p, int network) {
        check.due(run + "access", net.access(p, network), model.access(p, network));
    }

    private void trunk(int p, int network, int members) {
        check.due(run + "trunk", net.trunk(p, network, members), model.trunk(p, network, members));
    }

    private void cut() {
        int wires = model.wires.size();
        int wire = random.nextInt(10) == 0 ? around(10) : random.nextInt(Math.max(1, wires));
        boolean off = random.nextInt(3) != 0;
        check.due(run + "cut", net.cut(wire, off), model.cut(wire, off));
    }

    private void tick(int n) {
        check.due(run + "tick", net.tick(n), model.tick(n));
    }

    private void send() {
        int from = anyHost();
        int to = random.nextInt(3) == 0 ? around(7) : anyHost();
        check.due(run + "send", net.send(from, to), model.send(from, to));
        check.due(run + "crossings", net.crossings(), model.crossings);
    }

    private void ask() {
        int from = anyHost();
        int to = anyHost();
        int value = random.nextInt();
        check.due(run + "ask", net.ask(from, to, value), model.ask(from, to, value));
        check.due(run + "crossings", net.crossings(), model.crossings);
        check.due(run + "answer", net.answer(), model.answer);
    }

    private void call(int kind) {
        if (kind < 2) {
            bridge();
        } else if (kind < 6) {
            wire(place(), place());
        } else if (kind < 9) {
            host();
        } else if (kind < 10) {
            router();
        } else if (kind < 13) {
            access(place(), around(4));
        } else if (kind < 16) {
            trunk(place(), around(4), random.nextInt(4) == 0 ? around(15) : 15);
        } else if (kind < 26) {
            cut();
        } else if (kind < 55) {
            tick(random.nextInt(ticks));
        } else if (kind < 56) {
            tick(random.nextBoolean() ? -1 : 61);
        } else if (kind < 80) {
            send();
        } else {
            ask();
        }
    }

    private void compare() {
        for (int p = -1; p <= 24; p++) {
            check.due(run + "role(" + p + ")", net.role(p), model.role(p));
            check.due(run + "state(" + p + ")", net.state(p), model.state(p));
            for (int what = -1; what <= 6; what++) {
                String call = run + "held(" + p + ", " + what + ")";
                check.due(call, net.held(p, what), model.held(p, what));
            }
        }
        for (int b = -1; b <= 6; b++) {
            check.due(run + "root(" + b + ")", net.root(b), model.root(b));
            check.due(run + "entries(" + b + ")", net.entries(b), model.entries(b));
            for (int network = -1; network <= 4; network++) {
                for (int address = -1; address <= 7; address++) {
                    int want = model.learned(b, network, address);
                    check.due(run + "learned", net.learned(b, network, address), want);
                }
            }
        }
        check.due(run + "answer", net.answer(), model.answer);
        check.due(run + "crossings", net.crossings(), model.crossings);
    }
}
