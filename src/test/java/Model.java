import java.util.ArrayList;
import java.util.Arrays;
import java.util.HashMap;
import java.util.HashSet;
import java.util.List;
import java.util.Map;
import java.util.Set;

/**
 * A second program of the document's network, for comparing: it follows the document's words
 * step by step and knows nothing of how the program is built. It is given valid arguments
 * only. What it saves is the list of calls that led there, and it restores by making them anew.
 */
final class Model {
    static final class Bridge {
        final int number;
        int priority;
        boolean up = true;
        final Map<Station, Entry> table = new HashMap<>();

        Bridge(int number, int priority) {
            this.number = number;
            this.priority = priority;
        }

        int identifier() {
            return 16 * priority + number;
        }
    }

    static final class Port {
        final int number;
        final Bridge bridge;
        final int segment;
        int cost;
        boolean up = true;
        String state;
        int counter;
        int[] stored;
        int lifetime;

        Port(int number, Bridge bridge, int segment, int cost) {
            this.number = number;
            this.bridge = bridge;
            this.segment = segment;
            this.cost = cost;
            state = bridge.up ? "BLOCKING" : "OFF";
        }

        boolean active() {
            return up && bridge.up;
        }
    }

    static final class Station {
        int segment;
    }

    static final class Entry {
        Port port;
        int lifetime;
    }

    private record Sent(int[] message, int age, Port by) {
    }

    private record Transmission(int segment, Port by) {
    }

    private static final List<String> STATES = List.of("OFF", "BLOCKING", "LISTENING", "LEARNING", "FORWARDING");
    private static final List<String> ROLES = List.of("DISABLED", "ROOT", "DESIGNATED", "ALTERNATE", "BACKUP");

    List<Bridge> bridges = new ArrayList<>();
    List<Port> ports = new ArrayList<>();
    List<Station> stations = new ArrayList<>();
    int segments;
    int time;
    private List<Transmission> lastFrame = new ArrayList<>();
    private List<int[]> history = new ArrayList<>();
    private final List<List<int[]>> slots = new ArrayList<>(Arrays.asList(null, null));

    static final int ADD_BRIDGE = 0, ADD_SEGMENT = 1, ADD_PORT = 2, ADD_STATION = 3, SET_PRIORITY = 4, SET_COST = 5,
            SET_BRIDGE = 6, SET_PORT = 7, MOVE_STATION = 8, TICK = 9, SETTLE = 10, SEND = 11;

    /** Makes a call that may change the network, and remembers it. */
    int call(int... call) {
        history.add(call);
        return make(call);
    }

    private int make(int[] call) {
        switch (call[0]) {
            case ADD_BRIDGE:
                bridges.add(new Bridge(bridges.size(), call[1]));
                return bridges.size() - 1;
            case ADD_SEGMENT:
                return segments++;
            case ADD_PORT:
                ports.add(new Port(ports.size(), bridges.get(call[1]), call[2], call[3]));
                return ports.size() - 1;
            case ADD_STATION:
                stations.add(new Station());
                stations.get(stations.size() - 1).segment = call[1];
                return stations.size() - 1;
            case SET_PRIORITY:
                int priority = bridges.get(call[1]).priority;
                bridges.get(call[1]).priority = call[2];
                return priority;
            case SET_COST:
                int cost = ports.get(call[1]).cost;
                ports.get(call[1]).cost = call[2];
                return cost;
            case SET_BRIDGE:
                return setBridge(bridges.get(call[1]), call[2] == 1);
            case SET_PORT:
                return setPort(ports.get(call[1]), call[2] == 1);
            case MOVE_STATION:
                int segment = stations.get(call[1]).segment;
                stations.get(call[1]).segment = call[2];
                return segment;
            case TICK:
                for (int i = 0; i < call[1]; i++) {
                    tick();
                }
                return time;
            case SETTLE:
                return settle(call[1]);
            case SEND:
                return send(stations.get(call[1]), call[2] == -1 ? null : stations.get(call[2]));
            default:
                throw new IllegalStateException("no such call");
        }
    }

    int save(int slot) {
        slots.set(slot, new ArrayList<>(history));
        return bridges.size();
    }

    int restore(int slot) {
        if (slots.get(slot) == null) {
            return -8;
        }
        bridges = new ArrayList<>();
        ports = new ArrayList<>();
        stations = new ArrayList<>();
        lastFrame = new ArrayList<>();
        segments = 0;
        time = 0;
        history = new ArrayList<>(slots.get(slot));
        for (int[] call : history) {
            make(call);
        }
        return bridges.size();
    }

    private int setBridge(Bridge bridge, boolean up) {
        List<Boolean> before = activity();
        boolean was = bridge.up;
        bridge.up = up;
        afterSwitching(before);
        return was ? 1 : 0;
    }

    private int setPort(Port port, boolean up) {
        List<Boolean> before = activity();
        boolean was = port.up;
        port.up = up;
        afterSwitching(before);
        return was ? 1 : 0;
    }

    private List<Boolean> activity() {
        return ports.stream().map(Port::active).toList();
    }

    private void afterSwitching(List<Boolean> before) {
        for (Port port : ports) {
            if (port.active() == before.get(port.number)) {
                continue;
            }
            port.stored = null;
            port.state = port.active() ? "BLOCKING" : "OFF";
            if (!port.active()) {
                port.bridge.table.values().removeIf(entry -> entry.port == port);
            }
        }
    }

    /** Root, cost, then the sending bridge and port of the message, then the port itself. */
    private int[] bestOffer(Bridge bridge) {
        int[] best = null;
        for (Port port : ports) {
            if (port.bridge != bridge || !port.active() || port.stored == null || port.stored[2] == bridge.identifier()) {
                continue;
            }
            int[] offer = {port.stored[0], port.stored[1] + port.cost, port.stored[2], port.stored[3], port.number};
            if (best == null || Arrays.compare(offer, best) < 0) {
                best = offer;
            }
        }
        return best != null && best[0] < bridge.identifier() ? best : null;
    }

    int root(Bridge bridge) {
        if (!bridge.up) {
            return -9;
        }
        int[] offer = bestOffer(bridge);
        return offer == null ? bridge.identifier() : offer[0];
    }

    int rootCost(Bridge bridge) {
        if (!bridge.up) {
            return -9;
        }
        int[] offer = bestOffer(bridge);
        return offer == null ? 0 : offer[1];
    }

    int rootPort(Bridge bridge) {
        int[] offer = bridge.up ? bestOffer(bridge) : null;
        return offer == null ? -9 : offer[4];
    }

    private int[] ownMessage(Port port) {
        Bridge bridge = port.bridge;
        return new int[] {root(bridge), rootCost(bridge), bridge.identifier(), port.number};
    }

    private String roleName(Port port) {
        if (!port.active()) {
            return "DISABLED";
        }
        if (rootPort(port.bridge) == port.number) {
            return "ROOT";
        }
        if (port.stored == null || Arrays.compare(ownMessage(port), port.stored) < 0) {
            return "DESIGNATED";
        }
        return port.stored[2] == port.bridge.identifier() ? "BACKUP" : "ALTERNATE";
    }

    int role(Port port) {
        return ROLES.indexOf(roleName(port));
    }

    int state(Port port) {
        return STATES.indexOf(port.state);
    }

    int stored(Port port, int what) {
        if (port.stored == null) {
            return -9;
        }
        return what == 4 ? port.lifetime : port.stored[what];
    }

    private void tick() {
        List<Sent> sent = new ArrayList<>();
        for (Port port : ports) {
            if (!roleName(port).equals("DESIGNATED")) {
                continue;
            }
            int rootPort = rootPort(port.bridge);
            int age = rootPort < 0 ? 0 : 7 - ports.get(rootPort).lifetime;
            if (age <= 5) {
                sent.add(new Sent(ownMessage(port), age, port));
            }
        }
        Set<Port> fresh = new HashSet<>();
        for (Port port : ports) {
            if (port.active() && receive(port, sent)) {
                fresh.add(port);
            }
        }
        for (Port port : ports) {
            if (port.stored != null && !fresh.contains(port)) {
                port.lifetime--;
                if (port.lifetime == 0) {
                    port.stored = null;
                }
            }
        }
        List<String> roles = ports.stream().map(this::roleName).toList();
        for (Port port : ports) {
            moveState(port, roles.get(port.number));
        }
        for (Bridge bridge : bridges) {
            bridge.table.values().forEach(entry -> entry.lifetime--);
            bridge.table.values().removeIf(entry -> entry.lifetime == 0);
        }
        time++;
    }

    private static boolean receive(Port port, List<Sent> sent) {
        Sent best = null;
        for (Sent one : sent) {
            if (one.by != port && one.by.segment == port.segment
                    && (best == null || Arrays.compare(one.message, best.message) < 0)) {
                best = one;
            }
        }
        if (best == null) {
            return false;
        }
        boolean stores = port.stored == null || Arrays.compare(best.message, port.stored) <= 0
                || best.message[2] == port.stored[2] && best.message[3] == port.stored[3];
        if (stores) {
            port.stored = best.message;
            port.lifetime = 6 - best.age;
        }
        return stores;
    }

    private static void moveState(Port port, String role) {
        if (role.equals("ALTERNATE") || role.equals("BACKUP")) {
            port.state = "BLOCKING";
        } else if (role.equals("ROOT") || role.equals("DESIGNATED")) {
            if (port.state.equals("BLOCKING")) {
                port.state = "LISTENING";
                port.counter = 2;
            } else if (port.state.equals("LISTENING") && --port.counter == 0) {
                port.state = "LEARNING";
                port.counter = 2;
            } else if (port.state.equals("LEARNING") && --port.counter == 0) {
                port.state = "FORWARDING";
            }
        }
    }

    private int settle(int limit) {
        List<Boolean> changes = new ArrayList<>();
        while (changes.size() < limit) {
            List<String> before = rolesAndStates();
            tick();
            changes.add(!before.equals(rolesAndStates()));
            int made = changes.size();
            if (made >= 8 && !changes.subList(made - 8, made).contains(true)) {
                return made;
            }
        }
        return -7;
    }

    private List<String> rolesAndStates() {
        return ports.stream().map(port -> roleName(port) + port.state).toList();
    }

    int portsIn(int state) {
        return ports.stream().filter(port -> state(port) == state).mapToInt(port -> 1 << port.number).sum();
    }

    /** Walks through each part from a vertex that was not seen yet; segments are numbered behind bridges. */
    int parts() {
        Set<Integer> unseen = vertices();
        int parts = 0;
        while (!unseen.isEmpty()) {
            walk(unseen.iterator().next(), unseen);
            parts++;
        }
        return parts;
    }

    private Set<Integer> vertices() {
        Set<Integer> vertices = new HashSet<>();
        bridges.stream().filter(bridge -> bridge.up).forEach(bridge -> vertices.add(bridge.number));
        for (int segment = 0; segment < segments; segment++) {
            vertices.add(100 + segment);
        }
        return vertices;
    }

    private void walk(int vertex, Set<Integer> unseen) {
        if (!unseen.remove(vertex)) {
            return;
        }
        for (Port port : ports) {
            if (port.state.equals("FORWARDING") && (port.bridge.number == vertex || 100 + port.segment == vertex)) {
                walk(port.bridge.number, unseen);
                walk(100 + port.segment, unseen);
            }
        }
    }

    int loops() {
        return Integer.bitCount(portsIn(4)) - vertices().size() + parts();
    }

    private int send(Station from, Station to) {
        List<Transmission> made = new ArrayList<>();
        made.add(new Transmission(from.segment, null));
        for (int i = 0; i < made.size(); i++) {
            for (Port port : ports) {
                if (port.active() && port.segment == made.get(i).segment && port != made.get(i).by) {
                    visit(port, from, to, made);
                }
            }
        }
        lastFrame = made;
        return made.size();
    }

    private void visit(Port port, Station from, Station to, List<Transmission> made) {
        boolean forwards = port.state.equals("FORWARDING");
        if (forwards || port.state.equals("LEARNING")) {
            Entry entry = new Entry();
            entry.port = port;
            entry.lifetime = 10;
            port.bridge.table.put(from, entry);
        }
        if (!forwards) {
            return;
        }
        Entry entry = to == null ? null : port.bridge.table.get(to);
        for (Port out : ports) {
            boolean known = entry != null && entry.port.state.equals("FORWARDING");
            boolean chosen = known ? out == entry.port : out.bridge == port.bridge && out.state.equals("FORWARDING");
            if (chosen && out != port && made.size() < 64) {
                made.add(new Transmission(out.segment, out));
            }
        }
    }

    int transmissions(int segment) {
        return (int) lastFrame.stream().filter(one -> one.segment == segment).count();
    }

    int entry(Bridge bridge, Station station) {
        Entry entry = bridge.table.get(station);
        return entry == null ? -9 : entry.port.number;
    }
}
