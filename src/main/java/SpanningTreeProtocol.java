/**
 * A bridged local area network with a spanning tree protocol in the style of IEEE 802.1D.
 * This class checks the arguments of each call; the classes inside it do the work and
 * are only ever given numbers of things that exist.
 */
public final class SpanningTreeProtocol {
    public static final int NO_SUCH_BRIDGE = -1, NO_SUCH_SEGMENT = -2, NO_SUCH_PORT = -3, NO_SUCH_STATION = -4, OUT_OF_RANGE = -5, FULL = -6, NOT_SETTLED = -7, NOT_SAVED = -8, NONE = -9;
    public static final int DISABLED = 0, ROOT = 1, DESIGNATED = 2, ALTERNATE = 3, BACKUP = 4;
    public static final int OFF = 0, BLOCKING = 1, LISTENING = 2, LEARNING = 3, FORWARDING = 4;

    private static final int MAX_BRIDGES = 8, MAX_SEGMENTS = 10, MAX_PORTS = 24, MAX_STATIONS = 8;
    private static final int MAX_PRIORITY = 15, MIN_COST = 1, MAX_COST = 100;
    private static final int MIN_TICKS = 1, MAX_TICKS = 50;
    private static final int QUIET_TICKS = 8, MAX_SETTLE_TICKS = 200;
    private static final int MESSAGE_LIFETIME = 6, MAX_MESSAGE_AGE = 5;
    private static final int STATE_TICKS = 2, ENTRY_LIFETIME = 10;
    private static final int MAX_TRANSMISSIONS = 64;
    private static final int SLOTS = 2;
    private static final int NO_PORT = -1, ALL_STATIONS = -1;
    private static final int UP = 1, DOWN = 0;

    private final Network network;
    private final Election election;
    private final Ticker ticker;
    private final Frame frame;
    private final Topology topology;
    private final Network[] saved;

    public SpanningTreeProtocol() {
        Network net = new Network();
        Election roles = new Election(net);
        network = net;
        election = roles;
        ticker = new Ticker(net, roles);
        frame = new Frame(net);
        topology = new Topology(net);
        saved = new Network[SLOTS];
    }

    public int addBridge(int priority) {
        if (!isPriority(priority)) {
            return OUT_OF_RANGE;
        }
        if (network.bridgeCount >= MAX_BRIDGES) {
            return FULL;
        }
        return network.appendBridge(priority);
    }

    public int addSegment() {
        if (network.segmentCount >= MAX_SEGMENTS) {
            return FULL;
        }
        return network.appendSegment();
    }

    public int addPort(int bridge, int segment, int cost) {
        if (!network.hasBridge(bridge)) {
            return NO_SUCH_BRIDGE;
        }
        if (!network.hasSegment(segment)) {
            return NO_SUCH_SEGMENT;
        }
        if (!isCost(cost)) {
            return OUT_OF_RANGE;
        }
        if (network.portCount >= MAX_PORTS) {
            return FULL;
        }
        return network.appendPort(bridge, segment, cost);
    }

    public int addStation(int segment) {
        if (!network.hasSegment(segment)) {
            return NO_SUCH_SEGMENT;
        }
        if (network.stationCount >= MAX_STATIONS) {
            return FULL;
        }
        return network.appendStation(segment);
    }

    public int setPriority(int bridge, int priority) {
        if (!network.hasBridge(bridge)) {
            return NO_SUCH_BRIDGE;
        }
        if (!isPriority(priority)) {
            return OUT_OF_RANGE;
        }
        int previous = network.priority[bridge];
        network.priority[bridge] = priority;
        return previous;
    }

    public int setCost(int port, int cost) {
        if (!network.hasPort(port)) {
            return NO_SUCH_PORT;
        }
        if (!isCost(cost)) {
            return OUT_OF_RANGE;
        }
        int previous = network.portCost[port];
        network.portCost[port] = cost;
        return previous;
    }

    public int setBridge(int bridge, boolean up) {
        if (!network.hasBridge(bridge)) {
            return NO_SUCH_BRIDGE;
        }
        return network.switchBridge(bridge, up ? UP : DOWN);
    }

    public int setPort(int port, boolean up) {
        if (!network.hasPort(port)) {
            return NO_SUCH_PORT;
        }
        return network.switchPort(port, up ? UP : DOWN);
    }

    public int moveStation(int station, int segment) {
        if (!network.hasStation(station)) {
            return NO_SUCH_STATION;
        }
        if (!network.hasSegment(segment)) {
            return NO_SUCH_SEGMENT;
        }
        int previous = network.stationSegment[station];
        network.stationSegment[station] = segment;
        return previous;
    }

    public int tick(int n) {
        if (n < MIN_TICKS || n > MAX_TICKS) {
            return OUT_OF_RANGE;
        }
        election.elect();
        for (int made = 0; made < n; made++) {
            ticker.makeTick();
        }
        return network.time;
    }

    public int settle(int limit) {
        if (limit < QUIET_TICKS || limit > MAX_SETTLE_TICKS) {
            return OUT_OF_RANGE;
        }
        election.elect();
        int quiet = 0;
        for (int made = 1; made <= limit; made++) {
            boolean changed = ticker.makeTick();
            quiet = changed ? 0 : quiet + 1;
            if (quiet >= QUIET_TICKS) {
                return made;
            }
        }
        return NOT_SETTLED;
    }

    public int identifier(int bridge) {
        if (!network.hasBridge(bridge)) {
            return NO_SUCH_BRIDGE;
        }
        return network.identifierOf(bridge);
    }

    public int root(int bridge) {
        if (!network.hasBridge(bridge)) {
            return NO_SUCH_BRIDGE;
        }
        if (!network.isBridgeUp(bridge)) {
            return NONE;
        }
        election.elect();
        return election.bridgeRoot[bridge];
    }

    public int rootCost(int bridge) {
        if (!network.hasBridge(bridge)) {
            return NO_SUCH_BRIDGE;
        }
        if (!network.isBridgeUp(bridge)) {
            return NONE;
        }
        election.elect();
        return election.bridgeRootCost[bridge];
    }

    public int rootPort(int bridge) {
        if (!network.hasBridge(bridge)) {
            return NO_SUCH_BRIDGE;
        }
        election.elect();
        int port = election.bridgeRootPort[bridge];
        return port == NO_PORT ? NONE : port;
    }

    public int role(int port) {
        if (!network.hasPort(port)) {
            return NO_SUCH_PORT;
        }
        election.elect();
        return election.portRole[port];
    }

    public int state(int port) {
        if (!network.hasPort(port)) {
            return NO_SUCH_PORT;
        }
        return network.portState[port];
    }

    public int stored(int port, int what) {
        if (!network.hasPort(port)) {
            return NO_SUCH_PORT;
        }
        if (what < 0 || what > 4) {
            return OUT_OF_RANGE;
        }
        if (!network.storesMessage(port)) {
            return NONE;
        }
        long message = network.message[port];
        switch (what) {
            case 0:
                return Message.rootOf(message);
            case 1:
                return Message.costOf(message);
            case 2:
                return Message.senderOf(message);
            case 3:
                return Message.senderPortOf(message);
            default:
                return network.messageLifetime[port];
        }
    }

    public int portsIn(int state) {
        if (state < OFF || state > FORWARDING) {
            return OUT_OF_RANGE;
        }
        int ports = 0;
        for (int port = 0; port < network.portCount; port++) {
            if (network.portState[port] == state) {
                ports |= 1 << port;
            }
        }
        return ports;
    }

    public int parts() {
        return topology.countParts();
    }

    public int loops() {
        return topology.countLoops();
    }

    public int send(int from, int to) {
        if (!network.hasStation(from)) {
            return NO_SUCH_STATION;
        }
        if (to != ALL_STATIONS && !network.hasStation(to)) {
            return NO_SUCH_STATION;
        }
        return frame.deliver(from, to);
    }

    public int transmissions(int segment) {
        if (!network.hasSegment(segment)) {
            return NO_SUCH_SEGMENT;
        }
        return network.transmitted[segment];
    }

    public int entry(int bridge, int station) {
        if (!network.hasBridge(bridge)) {
            return NO_SUCH_BRIDGE;
        }
        if (!network.hasStation(station)) {
            return NO_SUCH_STATION;
        }
        int port = network.learnedPort(bridge, station);
        return port == NO_PORT ? NONE : port;
    }

    public int count(int what) {
        switch (what) {
            case 0:
                return network.bridgeCount;
            case 1:
                return network.segmentCount;
            case 2:
                return network.portCount;
            case 3:
                return network.stationCount;
            case 4:
                return network.time;
            default:
                return OUT_OF_RANGE;
        }
    }

    public int save(int slot) {
        if (!isSlot(slot)) {
            return OUT_OF_RANGE;
        }
        // One copy a slot for the object's whole life: a later save writes over it.
        if (saved[slot] == null) {
            saved[slot] = new Network();
        }
        saved[slot].copyFrom(network);
        return network.bridgeCount;
    }

    public int restore(int slot) {
        if (!isSlot(slot)) {
            return OUT_OF_RANGE;
        }
        if (saved[slot] == null) {
            return NOT_SAVED;
        }
        network.copyFrom(saved[slot]);
        return network.bridgeCount;
    }

    private static boolean isPriority(int priority) {
        return priority >= 0 && priority <= MAX_PRIORITY;
    }

    private static boolean isCost(int cost) {
        return cost >= MIN_COST && cost <= MAX_COST;
    }

    private static boolean isSlot(int slot) {
        return slot >= 0 && slot < SLOTS;
    }

    /**
     * The four numbers of a message in one long, the first number in the highest bits, so
     * that comparing two longs compares the messages number by number. Costs stay far below
     * their 24 bits: a message crosses at most six bridges before it is too old to be sent.
     */
    private static final class Message {
        private static final int ROOT_SHIFT = 40, COST_SHIFT = 16, SENDER_SHIFT = 8;
        private static final long COST_MASK = 0xFFFFFFL, BYTE_MASK = 0xFFL, SENDER_AND_PORT_MASK = 0xFFFFL;

        private Message() {
        }

        static long of(int root, int cost, int sender, int senderPort) {
            return ((long) root << ROOT_SHIFT) | ((long) cost << COST_SHIFT)
                    | ((long) sender << SENDER_SHIFT) | (long) senderPort;
        }

        static int rootOf(long message) {
            return (int) (message >> ROOT_SHIFT);
        }

        static int costOf(long message) {
            return (int) ((message >> COST_SHIFT) & COST_MASK);
        }

        static int senderOf(long message) {
            return (int) ((message >> SENDER_SHIFT) & BYTE_MASK);
        }

        static int senderPortOf(long message) {
            return (int) (message & BYTE_MASK);
        }

        static long withCostAdded(long message, int cost) {
            return message + ((long) cost << COST_SHIFT);
        }

        static boolean haveSameSource(long one, long other) {
            return (one & SENDER_AND_PORT_MASK) == (other & SENDER_AND_PORT_MASK);
        }
    }

    /** All that a save keeps. A lifetime of 0 means that there is no message or no entry. */
    private static final class Network {
        int bridgeCount;
        int segmentCount;
        int portCount;
        int stationCount;
        int time;
        final int[] priority = new int[MAX_BRIDGES];
        final int[] bridgePower = new int[MAX_BRIDGES];
        final int[] portBridge = new int[MAX_PORTS];
        final int[] portSegment = new int[MAX_PORTS];
        final int[] portCost = new int[MAX_PORTS];
        final int[] portPower = new int[MAX_PORTS];
        final int[] portState = new int[MAX_PORTS];
        final int[] stateCounter = new int[MAX_PORTS];
        final long[] message = new long[MAX_PORTS];
        final int[] messageLifetime = new int[MAX_PORTS];
        final int[] stationSegment = new int[MAX_STATIONS];
        final int[] entryPort = new int[MAX_BRIDGES * MAX_STATIONS];
        final int[] entryLifetime = new int[MAX_BRIDGES * MAX_STATIONS];
        final int[] transmitted = new int[MAX_SEGMENTS];

        Network() {
        }

        void copyFrom(Network other) {
            bridgeCount = other.bridgeCount;
            segmentCount = other.segmentCount;
            portCount = other.portCount;
            stationCount = other.stationCount;
            time = other.time;
            copyRow(other.priority, priority);
            copyRow(other.bridgePower, bridgePower);
            copyRow(other.portBridge, portBridge);
            copyRow(other.portSegment, portSegment);
            copyRow(other.portCost, portCost);
            copyRow(other.portPower, portPower);
            copyRow(other.portState, portState);
            copyRow(other.stateCounter, stateCounter);
            System.arraycopy(other.message, 0, message, 0, MAX_PORTS);
            copyRow(other.messageLifetime, messageLifetime);
            copyRow(other.stationSegment, stationSegment);
            copyRow(other.entryPort, entryPort);
            copyRow(other.entryLifetime, entryLifetime);
            copyRow(other.transmitted, transmitted);
        }

        private static void copyRow(int[] from, int[] to) {
            System.arraycopy(from, 0, to, 0, Math.min(from.length, to.length));
        }

        boolean hasBridge(int bridge) {
            return bridge >= 0 && bridge < bridgeCount;
        }

        boolean hasSegment(int segment) {
            return segment >= 0 && segment < segmentCount;
        }

        boolean hasPort(int port) {
            return port >= 0 && port < portCount;
        }

        boolean hasStation(int station) {
            return station >= 0 && station < stationCount;
        }

        int appendBridge(int newPriority) {
            int bridge = bridgeCount;
            priority[bridge] = newPriority;
            bridgePower[bridge] = UP;
            bridgeCount++;
            return bridge;
        }

        int appendSegment() {
            int segment = segmentCount;
            segmentCount++;
            return segment;
        }

        int appendPort(int bridge, int segment, int cost) {
            int port = portCount;
            portBridge[port] = bridge;
            portSegment[port] = segment;
            portCost[port] = cost;
            portPower[port] = UP;
            portState[port] = isBridgeUp(bridge) ? BLOCKING : OFF;
            portCount++;
            return port;
        }

        int appendStation(int segment) {
            int station = stationCount;
            stationSegment[station] = segment;
            stationCount++;
            return station;
        }

        int identifierOf(int bridge) {
            return 16 * priority[bridge] + bridge;
        }

        boolean isBridgeUp(int bridge) {
            return bridgePower[bridge] == UP;
        }

        boolean isActive(int port) {
            return portPower[port] == UP && isBridgeUp(portBridge[port]);
        }

        boolean isForwarding(int port) {
            return portState[port] == FORWARDING;
        }

        boolean storesMessage(int port) {
            return messageLifetime[port] > 0;
        }

        int switchBridge(int bridge, int power) {
            int previous = bridgePower[bridge];
            bridgePower[bridge] = power;
            for (int port = 0; port < portCount; port++) {
                if (previous != power && portBridge[port] == bridge && portPower[port] == UP) {
                    resetPort(port);
                }
            }
            return previous;
        }

        int switchPort(int port, int power) {
            int previous = portPower[port];
            portPower[port] = power;
            if (previous != power && isBridgeUp(portBridge[port])) {
                resetPort(port);
            }
            return previous;
        }

        /** For a port that has just become active or inactive. */
        private void resetPort(int port) {
            messageLifetime[port] = 0;
            stateCounter[port] = 0;
            if (isActive(port)) {
                portState[port] = BLOCKING;
            } else {
                portState[port] = OFF;
                forgetEntriesWith(port);
            }
        }

        private void forgetEntriesWith(int port) {
            for (int entry = 0; entry < entryPort.length; entry++) {
                if (entryPort[entry] == port) {
                    entryLifetime[entry] = 0;
                }
            }
        }

        int learnedPort(int bridge, int station) {
            int entry = entryIndex(bridge, station);
            return entryLifetime[entry] > 0 ? entryPort[entry] : NO_PORT;
        }

        void learn(int station, int port) {
            int entry = entryIndex(portBridge[port], station);
            entryPort[entry] = port;
            entryLifetime[entry] = ENTRY_LIFETIME;
        }

        void ageEntries() {
            for (int entry = 0; entry < entryLifetime.length; entry++) {
                if (entryLifetime[entry] > 0) {
                    entryLifetime[entry]--;
                }
            }
        }

        void ageMessage(int port) {
            if (messageLifetime[port] > 0) {
                messageLifetime[port]--;
            }
        }

        private static int entryIndex(int bridge, int station) {
            return bridge * MAX_STATIONS + station;
        }
    }

    /** The roots of the bridges and the roles of the ports that follow from the stored messages. */
    private static final class Election {
        private final Network net;
        final int[] bridgeRoot = new int[MAX_BRIDGES];
        final int[] bridgeRootCost = new int[MAX_BRIDGES];
        final int[] bridgeRootPort = new int[MAX_BRIDGES];
        final int[] portRole = new int[MAX_PORTS];
        private final long[] bestOffer = new long[MAX_BRIDGES];
        private final int[] bestOfferPort = new int[MAX_BRIDGES];

        Election(Network net) {
            this.net = net;
        }

        /** Works all out anew; tells whether a role is not the one that stood here before. */
        boolean elect() {
            findBestOffers();
            for (int bridge = 0; bridge < net.bridgeCount; bridge++) {
                chooseRoot(bridge);
            }
            boolean changed = false;
            for (int port = 0; port < net.portCount; port++) {
                int role = roleFor(port);
                changed = changed || role != portRole[port];
                portRole[port] = role;
            }
            return changed;
        }

        private void findBestOffers() {
            for (int bridge = 0; bridge < net.bridgeCount; bridge++) {
                bestOfferPort[bridge] = NO_PORT;
            }
            for (int port = 0; port < net.portCount; port++) {
                if (hasOffer(port)) {
                    considerOffer(port);
                }
            }
        }

        private boolean hasOffer(int port) {
            return net.isActive(port) && net.storesMessage(port) && !isFromOwnBridge(port);
        }

        private boolean isFromOwnBridge(int port) {
            return Message.senderOf(net.message[port]) == net.identifierOf(net.portBridge[port]);
        }

        private void considerOffer(int port) {
            int bridge = net.portBridge[port];
            long offer = Message.withCostAdded(net.message[port], net.portCost[port]);
            // Ports come in ascending order, so an equal offer of a later port loses.
            if (bestOfferPort[bridge] == NO_PORT || offer < bestOffer[bridge]) {
                bestOffer[bridge] = offer;
                bestOfferPort[bridge] = port;
            }
        }

        private void chooseRoot(int bridge) {
            int identifier = net.identifierOf(bridge);
            int port = bestOfferPort[bridge];
            if (port != NO_PORT && Message.rootOf(bestOffer[bridge]) < identifier) {
                bridgeRoot[bridge] = Message.rootOf(bestOffer[bridge]);
                bridgeRootCost[bridge] = Message.costOf(bestOffer[bridge]);
                bridgeRootPort[bridge] = port;
            } else {
                bridgeRoot[bridge] = identifier;
                bridgeRootCost[bridge] = 0;
                bridgeRootPort[bridge] = NO_PORT;
            }
        }

        private int roleFor(int port) {
            if (!net.isActive(port)) {
                return DISABLED;
            }
            if (bridgeRootPort[net.portBridge[port]] == port) {
                return ROOT;
            }
            if (!net.storesMessage(port) || ownMessage(port) < net.message[port]) {
                return DESIGNATED;
            }
            return isFromOwnBridge(port) ? BACKUP : ALTERNATE;
        }

        long ownMessage(int port) {
            int bridge = net.portBridge[port];
            return Message.of(bridgeRoot[bridge], bridgeRootCost[bridge], net.identifierOf(bridge), port);
        }
    }

    /** Makes ticks. Its rows hold what is sent in a tick, and are of no use after it. */
    private static final class Ticker {
        private final Network net;
        private final Election election;
        private final long[] sentMessage = new long[MAX_PORTS];
        private final int[] sentAge = new int[MAX_PORTS];
        private final int[] bestSender = new int[MAX_SEGMENTS];
        private final int[] nextBestSender = new int[MAX_SEGMENTS];

        Ticker(Network net, Election election) {
            this.net = net;
            this.election = election;
        }

        /**
         * Tells whether the tick changed a role or a state. The election must fit the network
         * before the call; it fits it again afterwards, so that ticks can follow one another.
         */
        boolean makeTick() {
            sendMessages();
            for (int port = 0; port < net.portCount; port++) {
                if (!takesMessage(port)) {
                    net.ageMessage(port);
                }
            }
            boolean roleChanged = election.elect();
            boolean stateChanged = moveStates();
            net.ageEntries();
            net.time++;
            return roleChanged || stateChanged;
        }

        private void sendMessages() {
            for (int segment = 0; segment < net.segmentCount; segment++) {
                bestSender[segment] = NO_PORT;
                nextBestSender[segment] = NO_PORT;
            }
            for (int port = 0; port < net.portCount; port++) {
                int age = ageToSend(port);
                if (election.portRole[port] == DESIGNATED && age <= MAX_MESSAGE_AGE) {
                    sentMessage[port] = election.ownMessage(port);
                    sentAge[port] = age;
                    rankSender(port);
                }
            }
        }

        private int ageToSend(int port) {
            int rootPort = election.bridgeRootPort[net.portBridge[port]];
            return rootPort == NO_PORT ? 0 : MESSAGE_LIFETIME + 1 - net.messageLifetime[rootPort];
        }

        /** Two senders a segment are enough: the best one itself listens to the next best. */
        private void rankSender(int port) {
            int segment = net.portSegment[port];
            if (isBetterSender(port, bestSender[segment])) {
                nextBestSender[segment] = bestSender[segment];
                bestSender[segment] = port;
            } else if (isBetterSender(port, nextBestSender[segment])) {
                nextBestSender[segment] = port;
            }
        }

        private boolean isBetterSender(int port, int other) {
            return other == NO_PORT || sentMessage[port] < sentMessage[other];
        }

        private boolean takesMessage(int port) {
            if (!net.isActive(port)) {
                return false;
            }
            int segment = net.portSegment[port];
            int sender = bestSender[segment] == port ? nextBestSender[segment] : bestSender[segment];
            if (sender == NO_PORT || !accepts(port, sentMessage[sender])) {
                return false;
            }
            net.message[port] = sentMessage[sender];
            net.messageLifetime[port] = MESSAGE_LIFETIME - sentAge[sender];
            return true;
        }

        private boolean accepts(int port, long sent) {
            if (!net.storesMessage(port)) {
                return true;
            }
            long stored = net.message[port];
            return sent <= stored || Message.haveSameSource(sent, stored);
        }

        private boolean moveStates() {
            boolean changed = false;
            for (int port = 0; port < net.portCount; port++) {
                int before = net.portState[port];
                moveState(port, election.portRole[port]);
                changed = changed || net.portState[port] != before;
            }
            return changed;
        }

        private void moveState(int port, int role) {
            if (role == ALTERNATE || role == BACKUP) {
                enterState(port, BLOCKING, 0);
            } else if (role == ROOT || role == DESIGNATED) {
                moveTowardsForwarding(port);
            }
        }

        private void moveTowardsForwarding(int port) {
            int state = net.portState[port];
            if (state == BLOCKING) {
                enterState(port, LISTENING, STATE_TICKS);
            } else if (state == LISTENING || state == LEARNING) {
                net.stateCounter[port]--;
                if (net.stateCounter[port] <= 0) {
                    enterState(port, state + 1, state == LISTENING ? STATE_TICKS : 0);
                }
            }
        }

        private void enterState(int port, int state, int counter) {
            net.portState[port] = state;
            net.stateCounter[port] = counter;
        }
    }

    /** Carries frames. The queue holds the transmissions of one frame, in their order. */
    private static final class Frame {
        private final Network net;
        private final int[] queueSegment = new int[MAX_TRANSMISSIONS];
        private final int[] queuePort = new int[MAX_TRANSMISSIONS];
        private int made;

        Frame(Network net) {
            this.net = net;
        }

        int deliver(int from, int to) {
            made = 0;
            for (int segment = 0; segment < MAX_SEGMENTS; segment++) {
                net.transmitted[segment] = 0;
            }
            transmit(net.stationSegment[from], NO_PORT);
            for (int next = 0; next < made && next < MAX_TRANSMISSIONS; next++) {
                visitPorts(queueSegment[next], queuePort[next], from, to);
            }
            return made;
        }

        private void transmit(int segment, int port) {
            if (made >= MAX_TRANSMISSIONS) {
                return;
            }
            queueSegment[made] = segment;
            queuePort[made] = port;
            made++;
            net.transmitted[segment]++;
        }

        private void visitPorts(int segment, int transmitter, int from, int to) {
            for (int port = 0; port < net.portCount; port++) {
                if (net.portSegment[port] == segment && port != transmitter && net.isActive(port)) {
                    visitPort(port, from, to);
                }
            }
        }

        private void visitPort(int port, int from, int to) {
            int state = net.portState[port];
            if (state == LEARNING || state == FORWARDING) {
                net.learn(from, port);
            }
            if (state == FORWARDING) {
                passOn(port, to);
            }
        }

        private void passOn(int port, int to) {
            int bridge = net.portBridge[port];
            int target = to == ALL_STATIONS ? NO_PORT : net.learnedPort(bridge, to);
            if (target == NO_PORT || !net.isForwarding(target)) {
                flood(bridge, port);
            } else if (target != port) {
                transmit(net.portSegment[target], target);
            }
        }

        private void flood(int bridge, int except) {
            for (int port = 0; port < net.portCount; port++) {
                if (net.portBridge[port] == bridge && port != except && net.isForwarding(port)) {
                    transmit(net.portSegment[port], port);
                }
            }
        }
    }

    /** The graph of segments and bridges that are up, joined by the forwarding ports. */
    private static final class Topology {
        private final Network net;
        // Segments come first, then bridges; equal labels mean the same part.
        private final int[] label = new int[MAX_SEGMENTS + MAX_BRIDGES];

        Topology(Network net) {
            this.net = net;
        }

        int countParts() {
            for (int vertex = 0; vertex < label.length; vertex++) {
                label[vertex] = vertex;
            }
            int parts = countVertices();
            for (int port = 0; port < net.portCount; port++) {
                if (net.isForwarding(port) && join(port)) {
                    parts--;
                }
            }
            return parts;
        }

        int countLoops() {
            int forwarding = 0;
            for (int port = 0; port < net.portCount; port++) {
                if (net.isForwarding(port)) {
                    forwarding++;
                }
            }
            return forwarding - countVertices() + countParts();
        }

        private int countVertices() {
            int vertices = net.segmentCount;
            for (int bridge = 0; bridge < net.bridgeCount; bridge++) {
                if (net.isBridgeUp(bridge)) {
                    vertices++;
                }
            }
            return vertices;
        }

        /** Tells whether the port joined two parts that were apart. */
        private boolean join(int port) {
            int kept = label[net.portSegment[port]];
            int dropped = label[MAX_SEGMENTS + net.portBridge[port]];
            if (kept == dropped) {
                return false;
            }
            for (int vertex = 0; vertex < label.length; vertex++) {
                if (label[vertex] == dropped) {
                    label[vertex] = kept;
                }
            }
            return true;
        }
    }
}
