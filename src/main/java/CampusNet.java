import java.util.Arrays;

/**
 * Bridges joined by wires that agree on a spanning tree by messages, learn where addresses are,
 * keep virtual networks apart, and carry the frames of hosts and of a router between these networks.
 *
 * <p>All rows are made by the constructor and used again by every call, so that no call makes
 * an object.
 */
public final class CampusNet {
    private static final int MAX_BRIDGES = 6;
    private static final int PORTS = 4;
    private static final int PLACES = MAX_BRIDGES * PORTS;
    private static final int MAX_WIRES = 10;
    private static final int MAX_HOSTS = 6;
    private static final int NETWORKS = 4;
    private static final int MAX_TICKS = 60;
    private static final int MAX_CROSSINGS = 60;

    private static final int NONE = -1;
    private static final int REFUSED = -1;

    private static final int ALL = -1;
    private static final int ROUTER = 6;
    private static final int ADDRESSES = 7;

    private static final int ROLE_DOWN = 0;
    private static final int ROLE_ROOT = 1;
    private static final int ROLE_DESIGNATED = 2;
    private static final int ROLE_BLOCKED = 3;

    private static final int STATE_OFF = 0;
    private static final int STATE_LISTENING = 1;
    private static final int STATE_LEARNING = 2;
    private static final int STATE_FORWARDING = 3;

    private static final int DIRECT_FRAMES = 4;
    private static final int ROUTED_FRAMES = 8;

    private final int memory;
    private final Plan plan;
    private final Networks networks;
    private final Tree tree;
    private final Table table;
    private final Carrier carrier;
    private int latestAnswer;

    public CampusNet(int limit, int delay, int memory) {
        this.memory = nearest(memory, 5, 40);
        plan = new Plan();
        networks = new Networks();
        tree = new Tree(plan, nearest(limit, 6, 12), nearest(delay, 1, 4));
        table = new Table();
        carrier = new Carrier(plan, networks, tree, table);
        latestAnswer = 0;
    }

    public int bridge(int priority) {
        if (plan.bridgeCount >= MAX_BRIDGES || !isWithin(priority, 0, 7)) {
            return REFUSED;
        }
        int number = plan.addBridge(priority);
        tree.settle();
        return number;
    }

    public int wire(int p, int q, int cost) {
        if (plan.wireCount >= MAX_WIRES || !plan.isFree(p) || !plan.isFree(q)) {
            return REFUSED;
        }
        if (p == q || !isWithin(cost, 1, 9)) {
            return REFUSED;
        }
        int number = plan.addWire(p, q, cost);
        tree.settle();
        return number;
    }

    public int host(int p, int subnet) {
        if (plan.hostCount >= MAX_HOSTS || !plan.isFree(p) || !isNetwork(subnet)) {
            return REFUSED;
        }
        int number = plan.addHost(p, subnet);
        tree.settle();
        return number;
    }

    public boolean router(int p) {
        if (plan.hasRouter() || !plan.isFree(p)) {
            return false;
        }
        plan.addRouter(p);
        tree.settle();
        return true;
    }

    public boolean access(int p, int network) {
        if (!plan.isPlace(p) || !isNetwork(network)) {
            return false;
        }
        networks.makeAccess(p, network);
        return true;
    }

    public boolean trunk(int p, int nativeNetwork, int members) {
        if (!plan.isPlace(p) || !isNetwork(nativeNetwork) || !isWithin(members, 0, 15)) {
            return false;
        }
        networks.makeTrunk(p, nativeNetwork, members);
        return true;
    }

    public boolean cut(int wire, boolean off) {
        if (!isWithin(wire, 0, plan.wireCount - 1) || plan.wireIsCut[wire] == off) {
            return false;
        }
        plan.wireIsCut[wire] = off;
        int end = plan.wireEnds[wire];
        tree.dropMessage(end);
        tree.dropMessage(plan.farPlaces[end]);
        tree.settle();
        return true;
    }

    public int tick(int n) {
        if (!isWithin(n, 0, MAX_TICKS)) {
            return REFUSED;
        }
        for (int i = 0; i < n; i++) {
            tree.passTime();
            forgetOldEntries();
        }
        return tree.time;
    }

    public int role(int p) {
        return plan.isPlace(p) ? tree.roles[p] : REFUSED;
    }

    public int state(int p) {
        return plan.isPlace(p) ? tree.states[p] : REFUSED;
    }

    public int root(int bridge) {
        if (!plan.isBridge(bridge)) {
            return REFUSED;
        }
        int mark = tree.isMarked(bridge) ? 1 : 0;
        return tree.roots[bridge] * 2048 + tree.distances[bridge] * 2 + mark;
    }

    public int held(int p, int what) {
        if (!plan.isPlace(p) || !tree.holds[p] || !isWithin(what, 0, Tree.PARTS - 1)) {
            return REFUSED;
        }
        return tree.messages[Tree.PARTS * p + what];
    }

    public int learned(int bridge, int network, int address) {
        if (!plan.isBridge(bridge) || !isNetwork(network) || !isWithin(address, 0, ADDRESSES - 1)) {
            return REFUSED;
        }
        return table.portOf(bridge, network, address);
    }

    public int entries(int bridge) {
        return plan.isBridge(bridge) ? table.countOf(bridge) : REFUSED;
    }

    public int send(int from, int to) {
        if (!plan.isHost(from) || !isDestination(to)) {
            return REFUSED;
        }
        carrier.startCount();
        return carrier.carryFromHost(from, to);
    }

    public int ask(int from, int to, int value) {
        if (!plan.isHost(from) || !plan.isHost(to)) {
            return REFUSED;
        }
        boolean isRouted = plan.hostSubnets[from] != plan.hostSubnets[to];
        if (isRouted && !plan.hasRouter()) {
            return REFUSED;
        }
        carrier.startCount();
        int due = isRouted ? ROUTED_FRAMES : DIRECT_FRAMES;
        int done = 0;
        while (done < due
                && (isRouted ? routedStep(done, from, to) : directStep(done, from, to))) {
            done++;
        }
        // The first four frames of a routed exchange are no answer: host to isn't asked yet.
        if (done == due) {
            latestAnswer = 31 * value + to;
        }
        return done;
    }

    public int answer() {
        return latestAnswer;
    }

    public int crossings() {
        return carrier.countedCrossings;
    }

    private void forgetOldEntries() {
        for (int b = 0; b < plan.bridgeCount; b++) {
            table.forget(b, tree.time, tree.isMarked(b) ? tree.delay : memory);
        }
    }

    private boolean isDestination(int address) {
        return address == ALL || plan.isHost(address) || address == ROUTER && plan.hasRouter();
    }

    // Each step sends one frame and tells whether it reached whom it must.

    private boolean directStep(int step, int from, int to) {
        switch (step) {
            case 0:
                return hasBit(carrier.carryFromHost(from, ALL), to);
            case 2:
                return hasBit(carrier.carryFromHost(from, to), to);
            default:
                return hasBit(carrier.carryFromHost(to, from), from);
        }
    }

    private boolean routedStep(int step, int from, int to) {
        switch (step) {
            case 0:
                return hasBit(carrier.carryFromHost(from, ALL), ROUTER);
            case 2:
                return hasBit(carrier.carryFromHost(from, ROUTER), ROUTER);
            case 3:
                return hasBit(carrier.carryFromRouter(plan.hostSubnets[to], ALL), to);
            case 4:
            case 6:
                return hasBit(carrier.carryFromHost(to, ROUTER), ROUTER);
            case 5:
                return hasBit(carrier.carryFromRouter(plan.hostSubnets[to], to), to);
            default:
                return hasBit(carrier.carryFromRouter(plan.hostSubnets[from], from), from);
        }
    }

    private static boolean isNetwork(int n) {
        return isWithin(n, 0, NETWORKS - 1);
    }

    private static boolean isWithin(int n, int least, int most) {
        return n >= least && n <= most;
    }

    private static int nearest(int n, int least, int most) {
        return Math.max(least, Math.min(most, n));
    }

    private static boolean hasBit(int bits, int n) {
        return (bits >> n & 1) == 1;
    }

    /** Which bridges there are, and what is plugged to their places. */
    private static final class Plan {
        int bridgeCount;
        final int[] bridgeIds = new int[MAX_BRIDGES];
        int wireCount;
        final int[] wireEnds = new int[MAX_WIRES];
        final int[] wireCosts = new int[MAX_WIRES];
        final boolean[] wireIsCut = new boolean[MAX_WIRES];
        int hostCount;
        final int[] hostPlaces = new int[MAX_HOSTS];
        final int[] hostSubnets = new int[MAX_HOSTS];
        int routerPlace = NONE;
        final int[] wires = new int[PLACES];
        final int[] farPlaces = new int[PLACES];
        final int[] guests = new int[PLACES];

        Plan() {
            Arrays.fill(wires, NONE);
            Arrays.fill(farPlaces, NONE);
            Arrays.fill(guests, NONE);
        }

        int addBridge(int priority) {
            int number = bridgeCount;
            bridgeIds[number] = 8 * priority + number;
            bridgeCount++;
            return number;
        }

        int addWire(int p, int q, int cost) {
            int number = wireCount;
            wireEnds[number] = p;
            wireCosts[number] = cost;
            wires[p] = number;
            wires[q] = number;
            farPlaces[p] = q;
            farPlaces[q] = p;
            wireCount++;
            return number;
        }

        int addHost(int p, int subnet) {
            int number = hostCount;
            hostPlaces[number] = p;
            hostSubnets[number] = subnet;
            guests[p] = number;
            hostCount++;
            return number;
        }

        void addRouter(int p) {
            routerPlace = p;
            guests[p] = ROUTER;
        }

        boolean isBridge(int b) {
            return isWithin(b, 0, bridgeCount - 1);
        }

        boolean isPlace(int p) {
            return isWithin(p, 0, PORTS * bridgeCount - 1);
        }

        boolean isFree(int p) {
            return isPlace(p) && wires[p] == NONE && guests[p] == NONE;
        }

        boolean isHost(int h) {
            return isWithin(h, 0, hostCount - 1);
        }

        boolean hasRouter() {
            return routerPlace != NONE;
        }

        boolean hasWholeWire(int p) {
            return wires[p] != NONE && !wireIsCut[wires[p]];
        }

        boolean isUp(int p) {
            return guests[p] != NONE || hasWholeWire(p);
        }
    }

    /** Of which virtual networks each port is a member, and which frames it tags. */
    private static final class Networks {
        // The own network of an access port, the native one of a trunk.
        final int[] untagged = new int[PLACES];
        final int[] members = new int[PLACES];
        final boolean[] isTrunk = new boolean[PLACES];

        Networks() {
            Arrays.fill(members, 1);
        }

        void makeAccess(int p, int network) {
            untagged[p] = network;
            members[p] = 1 << network;
            isTrunk[p] = false;
        }

        void makeTrunk(int p, int nativeNetwork, int memberBits) {
            untagged[p] = nativeNetwork;
            members[p] = memberBits;
            isTrunk[p] = true;
        }

        boolean isMember(int p, int network) {
            return (members[p] >> network & 1) == 1;
        }

        /** The network of a frame that comes in, or NONE if the port doesn't take it. */
        int networkInside(int p, int tag) {
            if (tag != NONE && !isTrunk[p]) {
                return NONE;
            }
            int network = tag == NONE ? untagged[p] : tag;
            return isMember(p, network) ? network : NONE;
        }

        /** The tag that a frame of a network has outside the port, whichever way it goes. */
        int tagOutside(int p, int network) {
            return untagged[p] == network ? NONE : network;
        }
    }

    /** The messages that the ports hold, and what the bridges make of them as time passes. */
    private static final class Tree {
        static final int PARTS = 6;
        static final int ROOT_PART = 0;
        static final int COST_PART = 1;
        static final int SENDER_PART = 2;
        static final int PORT_PART = 3;
        static final int AGE_PART = 4;
        static final int MARK_PART = 5;

        final Plan plan;
        final int limit;
        final int delay;
        int time;

        // A row of PARTS numbers for each place.
        final int[] messages = new int[PLACES * PARTS];
        final boolean[] holds = new boolean[PLACES];
        // All bridges send at once, so what they send is put here before a port takes it.
        final int[] sentMessages = new int[PLACES * PARTS];
        final boolean[] isSentTo = new boolean[PLACES];

        final int[] roots = new int[MAX_BRIDGES];
        final int[] distances = new int[MAX_BRIDGES];
        final int[] rootPlaces = new int[MAX_BRIDGES];

        final int[] roles = new int[PLACES];
        final int[] since = new int[PLACES];
        final int[] states = new int[PLACES];

        final int[] until = new int[MAX_BRIDGES];
        final boolean[] hasNotice = new boolean[MAX_BRIDGES];
        final boolean[] passesNotice = new boolean[MAX_BRIDGES];

        Tree(Plan plan, int limit, int delay) {
            this.plan = plan;
            this.limit = limit;
            this.delay = delay;
            Arrays.fill(rootPlaces, NONE);
        }

        /** The first four steps of a tick. */
        void passTime() {
            time++;
            ageMessages();
            chooseRoots();
            passNotices();
            sendMessages();
            takeMessages();
            settle();
        }

        /**
         * Brings roots, roles and states up to what is plugged and held now. What is newly plugged
         * only begins to listen, so that notices come of ticks and cuts alone.
         */
        void settle() {
            chooseRoots();
            int places = PORTS * plan.bridgeCount;
            for (int p = 0; p < places; p++) {
                lookAtRole(p);
                int before = states[p];
                states[p] = stateNow(p);
                if (isWorthNotice(before, states[p])) {
                    hasNotice[p / PORTS] = true;
                }
            }
        }

        void dropMessage(int p) {
            holds[p] = false;
        }

        boolean isMarked(int b) {
            if (rootPlaces[b] == NONE) {
                return time < until[b];
            }
            return messages[PARTS * rootPlaces[b] + MARK_PART] == 1;
        }

        private void ageMessages() {
            for (int p = 0; p < PLACES; p++) {
                if (holds[p]) {
                    messages[PARTS * p + AGE_PART]++;
                    holds[p] = messages[PARTS * p + AGE_PART] < limit;
                }
            }
        }

        private void chooseRoots() {
            for (int b = 0; b < plan.bridgeCount; b++) {
                int best = bestOffer(b);
                rootPlaces[b] = best;
                roots[b] = best == NONE ? plan.bridgeIds[b] : messages[PARTS * best + ROOT_PART];
                distances[b] = best == NONE ? 0 : offeredCost(best);
            }
        }

        /** The place that makes the least offer; of equal ones the lower port comes first. */
        private int bestOffer(int b) {
            int best = NONE;
            for (int p = PORTS * b; p < PORTS * b + PORTS; p++) {
                if (isOffering(p) && (best == NONE || offerRank(p) < offerRank(best))) {
                    best = p;
                }
            }
            return best;
        }

        private boolean isOffering(int p) {
            return holds[p] && plan.hasWholeWire(p)
                    && messages[PARTS * p + ROOT_PART] < plan.bridgeIds[p / PORTS];
        }

        private int offeredCost(int p) {
            int wire = plan.wires[p];
            return messages[PARTS * p + COST_PART] + (wire == NONE ? 0 : plan.wireCosts[wire]);
        }

        private long offerRank(int p) {
            int row = PARTS * p;
            return rank(messages[row + ROOT_PART], offeredCost(p),
                    messages[row + SENDER_PART], messages[row + PORT_PART]);
        }

        private long messageRank(int p) {
            int row = PARTS * p;
            return rank(messages[row + ROOT_PART], messages[row + COST_PART],
                    messages[row + SENDER_PART], messages[row + PORT_PART]);
        }

        /** One number that orders four: IDs are below 64, ports below 4, costs far below a million. */
        private static long rank(long root, long cost, long sender, long port) {
            return ((root << 20 | cost) << 6 | sender) << 2 | port;
        }

        private int roleNow(int p) {
            int b = p / PORTS;
            if (!plan.isUp(p)) {
                return ROLE_DOWN;
            }
            if (rootPlaces[b] == p) {
                return ROLE_ROOT;
            }
            long own = rank(roots[b], distances[b], plan.bridgeIds[b], p % PORTS);
            return !holds[p] || own < messageRank(p) ? ROLE_DESIGNATED : ROLE_BLOCKED;
        }

        private void lookAtRole(int p) {
            int role = roleNow(p);
            if (isActive(role) && !isActive(roles[p])) {
                since[p] = time;
            }
            roles[p] = role;
        }

        private static boolean isActive(int role) {
            return role == ROLE_ROOT || role == ROLE_DESIGNATED;
        }

        private int stateNow(int p) {
            if (!isActive(roles[p])) {
                return STATE_OFF;
            }
            int passed = time - since[p];
            if (passed < delay) {
                return STATE_LISTENING;
            }
            return passed < 2 * delay ? STATE_LEARNING : STATE_FORWARDING;
        }

        private static boolean isWorthNotice(int before, int after) {
            boolean cameUp = after == STATE_FORWARDING && before != STATE_FORWARDING;
            boolean wentDown = before >= STATE_LEARNING && after < STATE_LEARNING;
            return cameUp || wentDown;
        }

        private void passNotices() {
            for (int b = 0; b < plan.bridgeCount; b++) {
                passesNotice[b] = hasNotice[b];
                hasNotice[b] = false;
            }
            for (int b = 0; b < plan.bridgeCount; b++) {
                if (passesNotice[b]) {
                    passNoticeOf(b);
                }
            }
        }

        private void passNoticeOf(int b) {
            if (rootPlaces[b] == NONE) {
                until[b] = time + limit + delay;
                return;
            }
            int far = plan.farPlaces[rootPlaces[b]];
            if (far != NONE) {
                hasNotice[far / PORTS] = true;
            }
        }

        private void sendMessages() {
            int places = PORTS * plan.bridgeCount;
            for (int p = 0; p < places; p++) {
                if (plan.hasWholeWire(p) && roleNow(p) == ROLE_DESIGNATED) {
                    sendMessage(p, plan.farPlaces[p]);
                }
            }
        }

        private void sendMessage(int p, int far) {
            int b = p / PORTS;
            int row = PARTS * far;
            int rootPlace = rootPlaces[b];
            sentMessages[row + ROOT_PART] = roots[b];
            sentMessages[row + COST_PART] = distances[b];
            sentMessages[row + SENDER_PART] = plan.bridgeIds[b];
            sentMessages[row + PORT_PART] = p % PORTS;
            sentMessages[row + AGE_PART] =
                    rootPlace == NONE ? 0 : messages[PARTS * rootPlace + AGE_PART];
            sentMessages[row + MARK_PART] = isMarked(b) ? 1 : 0;
            isSentTo[far] = true;
        }

        private void takeMessages() {
            for (int p = 0; p < PLACES; p++) {
                if (isSentTo[p]) {
                    System.arraycopy(sentMessages, PARTS * p, messages, PARTS * p, PARTS);
                    holds[p] = true;
                    isSentTo[p] = false;
                }
            }
        }
    }

    /** What the bridges have learned: a row for each bridge, network and address. */
    private static final class Table {
        static final int ROW = NETWORKS * ADDRESSES;

        final int[] ports = new int[MAX_BRIDGES * ROW];
        final int[] times = new int[MAX_BRIDGES * ROW];

        Table() {
            Arrays.fill(ports, NONE);
        }

        int portOf(int b, int network, int address) {
            return ports[ROW * b + ADDRESSES * network + address];
        }

        void learn(int p, int network, int address, int time) {
            int entry = ROW * (p / PORTS) + ADDRESSES * network + address;
            ports[entry] = p % PORTS;
            times[entry] = time;
        }

        int countOf(int b) {
            int count = 0;
            for (int e = ROW * b; e < ROW * b + ROW; e++) {
                if (ports[e] != NONE) {
                    count++;
                }
            }
            return count;
        }

        void forget(int b, int time, int span) {
            for (int e = ROW * b; e < ROW * b + ROW; e++) {
                if (time - times[e] >= span) {
                    ports[e] = NONE;
                }
            }
        }
    }

    /** Carries one frame after the other, and counts what they cross. */
    private static final class Carrier {
        final Plan plan;
        final Networks networks;
        final Tree tree;
        final Table table;

        // The first arrival is that of the sender; each further one comes of a crossing.
        final int[] arrivalPlaces = new int[1 + MAX_CROSSINGS];
        final int[] arrivalTags = new int[1 + MAX_CROSSINGS];
        int arrivalCount;
        int source;
        int destination;
        int frameCrossings;
        int reached;
        int countedCrossings;

        Carrier(Plan plan, Networks networks, Tree tree, Table table) {
            this.plan = plan;
            this.networks = networks;
            this.tree = tree;
            this.table = table;
        }

        void startCount() {
            countedCrossings = 0;
        }

        int carryFromHost(int from, int to) {
            return carry(from, to, plan.hostPlaces[from], NONE);
        }

        int carryFromRouter(int network, int to) {
            int place = plan.routerPlace;
            if (place == NONE) {
                return 0;
            }
            return carry(ROUTER, to, place, networks.tagOutside(place, network));
        }

        /** Bits of the addresses that the frame reached. */
        private int carry(int from, int to, int place, int tag) {
            source = from;
            destination = to;
            frameCrossings = 0;
            reached = 0;
            arrivalPlaces[0] = place;
            arrivalTags[0] = tag;
            arrivalCount = 1;
            for (int i = 0; i < arrivalCount && i < arrivalPlaces.length; i++) {
                handleArrival(arrivalPlaces[i], arrivalTags[i]);
            }
            countedCrossings += frameCrossings;
            return reached;
        }

        private void handleArrival(int p, int tag) {
            int network = networks.networkInside(p, tag);
            if (tree.states[p] < STATE_LEARNING || network == NONE) {
                return;
            }
            table.learn(p, network, source, tree.time);
            if (tree.states[p] == STATE_FORWARDING) {
                forward(p, network);
            }
        }

        private void forward(int p, int network) {
            int b = p / PORTS;
            int known = destination == ALL ? NONE : table.portOf(b, network, destination);
            for (int k = 0; k < PORTS; k++) {
                int out = PORTS * b + k;
                boolean isMeant = out != p && (known == NONE || known == k);
                if (isMeant && tree.states[out] == STATE_FORWARDING
                        && networks.isMember(out, network)) {
                    goOut(out, networks.tagOutside(out, network));
                }
            }
        }

        private void goOut(int p, int tag) {
            if (frameCrossings >= MAX_CROSSINGS) {
                return;
            }
            frameCrossings++;
            int guest = plan.guests[p];
            int far = plan.farPlaces[p];
            if (guest == ROUTER || guest != NONE && tag == NONE) {
                reached |= 1 << guest;
            }
            if (far != NONE && arrivalCount < arrivalPlaces.length) {
                arrivalPlaces[arrivalCount] = far;
                arrivalTags[arrivalCount] = tag;
                arrivalCount++;
            }
        }
    }
}
