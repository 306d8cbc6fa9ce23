import java.util.Random;

/** Long runs of calls, the same ones each time, on the program and on the Model. */
public final class ModelTest {
    private static final int RUNS = 400, CALLS = 250;
    private static final Check CHECK = new Check();

    private final int run;
    private final Random random;
    private final SpanningTreeProtocol x = new SpanningTreeProtocol();
    private final Model model = new Model();
    private final StringBuilder calls = new StringBuilder();

    private ModelTest(int run) {
        this.run = run;
        random = new Random(run);
    }

    public static void main(String[] args) {
        int settled = 0;
        int looped = 0;
        for (int run = 0; run < RUNS && CHECK.wrong() == 0; run++) {
            ModelTest test = new ModelTest(run);
            test.build();
            for (int i = 0; i < CALLS && CHECK.wrong() == 0; i++) {
                test.oneCall();
                test.compareSome(i);
                looped += test.x.loops() > 0 ? 1 : 0;
            }
            settled += test.x.settle(200) > 0 ? 1 : 0;
            if (CHECK.wrong() != 0) {
                System.out.println("the calls of run " + run + ": " + test.calls);
            }
        }
        if (CHECK.wrong() == 0) {
            CHECK.holds("the runs settle often", settled > RUNS / 2);
            CHECK.holds("the runs have loops at times", looped > 10);
        }
        CHECK.end();
    }

    /** Sparse and dense networks, and rows that are too long for the messages. */
    private void build() {
        int bridges = 1 + random.nextInt(8);
        int segments = 1 + random.nextInt(10);
        for (int i = 0; i < bridges; i++) {
            int priority = run % 4 == 0 ? i : random.nextInt(16);
            due("addBridge " + priority, x.addBridge(priority), model.call(Model.ADD_BRIDGE, priority));
        }
        for (int i = 0; i < segments; i++) {
            due("addSegment", x.addSegment(), model.call(Model.ADD_SEGMENT));
        }
        if (run % 2 == 0) {
            buildRow(Math.min(bridges, segments));
        }
        int more = random.nextInt(25 - model.ports.size());
        for (int i = 0; i < more; i++) {
            addPort(random.nextInt(bridges), random.nextInt(segments));
        }
        int stations = random.nextInt(8);
        for (int i = 0; i < stations; i++) {
            int segment = random.nextInt(segments);
            due("addStation " + segment, x.addStation(segment), model.call(Model.ADD_STATION, segment));
        }
    }

    private void buildRow(int length) {
        for (int i = 0; i < length; i++) {
            addPort(i, i);
            if (i > 0) {
                addPort(i, i - 1);
            }
        }
    }

    private void addPort(int bridge, int segment) {
        int cost = random.nextInt(3) == 0 ? 1 + random.nextInt(100) : 1 + random.nextInt(2);
        due("addPort " + bridge + " " + segment + " " + cost, x.addPort(bridge, segment, cost),
                model.call(Model.ADD_PORT, bridge, segment, cost));
    }

    private void oneCall() {
        int kind = random.nextInt(100);
        if (kind < 30) {
            ticks();
        } else if (kind < 55) {
            frames();
        } else if (kind < 75) {
            switches();
        } else if (kind < 85) {
            settings();
        } else if (kind < 88) {
            additions();
        } else if (kind < 92) {
            saving();
        } else {
            mistakes();
        }
    }

    private void ticks() {
        if (random.nextInt(5) == 0) {
            int limit = 8 + random.nextInt(30);
            due("settle " + limit, x.settle(limit), model.call(Model.SETTLE, limit));
        } else {
            int n = 1 + random.nextInt(random.nextInt(10) == 0 ? 50 : 4);
            due("tick " + n, x.tick(n), model.call(Model.TICK, n));
        }
    }

    private void frames() {
        int stations = model.stations.size();
        if (stations == 0) {
            return;
        }
        int station = random.nextInt(stations);
        if (random.nextInt(8) == 0) {
            int segment = random.nextInt(model.segments);
            due("moveStation " + station + " " + segment, x.moveStation(station, segment),
                    model.call(Model.MOVE_STATION, station, segment));
        } else {
            int to = random.nextInt(stations + 1) - 1;
            due("send " + station + " " + to, x.send(station, to), model.call(Model.SEND, station, to));
        }
    }

    private void switches() {
        boolean up = random.nextInt(3) != 0;
        if (random.nextInt(4) == 0) {
            int bridge = random.nextInt(model.bridges.size());
            due("setBridge " + bridge + " " + up, x.setBridge(bridge, up),
                    model.call(Model.SET_BRIDGE, bridge, up ? 1 : 0));
        } else if (!model.ports.isEmpty()) {
            int port = random.nextInt(model.ports.size());
            due("setPort " + port + " " + up, x.setPort(port, up), model.call(Model.SET_PORT, port, up ? 1 : 0));
        }
    }

    private void settings() {
        if (random.nextInt(2) == 0) {
            int bridge = random.nextInt(model.bridges.size());
            int priority = random.nextInt(16);
            due("setPriority " + bridge + " " + priority, x.setPriority(bridge, priority),
                    model.call(Model.SET_PRIORITY, bridge, priority));
        } else if (!model.ports.isEmpty()) {
            int port = random.nextInt(model.ports.size());
            int cost = 1 + random.nextInt(100);
            due("setCost " + port + " " + cost, x.setCost(port, cost), model.call(Model.SET_COST, port, cost));
        }
    }

    private void additions() {
        int priority = random.nextInt(16);
        int segment = random.nextInt(model.segments);
        switch (random.nextInt(4)) {
            case 0:
                due("addBridge " + priority, x.addBridge(priority),
                        model.bridges.size() == 8 ? -6 : model.call(Model.ADD_BRIDGE, priority));
                break;
            case 1:
                due("addSegment", x.addSegment(), model.segments == 10 ? -6 : model.call(Model.ADD_SEGMENT));
                break;
            case 2:
                due("addStation " + segment, x.addStation(segment),
                        model.stations.size() == 8 ? -6 : model.call(Model.ADD_STATION, segment));
                break;
            default:
                if (model.ports.size() == 24) {
                    due("addPort when full", x.addPort(0, segment, 1), -6);
                } else {
                    addPort(random.nextInt(model.bridges.size()), segment);
                }
        }
    }

    private void saving() {
        int slot = random.nextInt(2);
        if (random.nextInt(3) != 0) {
            due("save " + slot, x.save(slot), model.save(slot));
        } else {
            due("restore " + slot, x.restore(slot), model.restore(slot));
        }
    }

    /** Each of these must change nothing, which the next comparison sees. */
    private void mistakes() {
        int bridge = random.nextBoolean() ? -1 - random.nextInt(5) : model.bridges.size() + random.nextInt(5);
        int segment = random.nextBoolean() ? -1 - random.nextInt(5) : model.segments + random.nextInt(5);
        int port = random.nextBoolean() ? -1 - random.nextInt(5) : model.ports.size() + random.nextInt(5);
        int station = random.nextBoolean() ? -2 - random.nextInt(5) : model.stations.size() + random.nextInt(5);
        int cost = random.nextBoolean() ? -random.nextInt(5) : 101 + random.nextInt(5);
        int priority = random.nextBoolean() ? -1 - random.nextInt(5) : 16 + random.nextInt(5);
        due("wrong addBridge", x.addBridge(priority), -5);
        due("wrong addPort bridge", x.addPort(bridge, segment, cost), -1);
        due("wrong addPort segment", x.addPort(0, segment, cost), -2);
        due("wrong addPort cost", x.addPort(0, 0, cost), -5);
        due("wrong addStation", x.addStation(segment), -2);
        due("wrong setPriority bridge", x.setPriority(bridge, priority), -1);
        due("wrong setPriority", x.setPriority(0, priority), -5);
        due("wrong setCost port", x.setCost(port, cost), -3);
        due("wrong setBridge", x.setBridge(bridge, random.nextBoolean()), -1);
        due("wrong setPort", x.setPort(port, random.nextBoolean()), -3);
        due("wrong moveStation", x.moveStation(station, segment), -4);
        due("wrong tick", x.tick(random.nextBoolean() ? -random.nextInt(9) : 51 + random.nextInt(9)), -5);
        due("wrong settle", x.settle(random.nextBoolean() ? 7 - random.nextInt(9) : 201 + random.nextInt(9)), -5);
        due("wrong send from", x.send(station, -1), -4);
        if (!model.stations.isEmpty()) {
            due("wrong moveStation segment", x.moveStation(0, segment), -2);
            due("wrong send to", x.send(0, station), -4);
        }
        due("wrong save", x.save(2 + random.nextInt(9)), -5);
        due("wrong restore", x.restore(-1 - random.nextInt(9)), -5);
    }

    private void compareSome(int i) {
        compareTopology();
        if (i % 3 == 0) {
            compareBridges();
            comparePorts();
        }
    }

    private void compareTopology() {
        ask("count 0", x.count(0), model.bridges.size());
        ask("count 1", x.count(1), model.segments);
        ask("count 2", x.count(2), model.ports.size());
        ask("count 3", x.count(3), model.stations.size());
        ask("count 4", x.count(4), model.time);
        for (int state = 0; state <= 4; state++) {
            ask("portsIn " + state, x.portsIn(state), model.portsIn(state));
        }
        ask("parts", x.parts(), model.parts());
        ask("loops", x.loops(), model.loops());
        for (int segment = 0; segment < model.segments; segment++) {
            ask("transmissions " + segment, x.transmissions(segment), model.transmissions(segment));
        }
    }

    private void compareBridges() {
        for (Model.Bridge bridge : model.bridges) {
            int b = bridge.number;
            ask("identifier " + b, x.identifier(b), bridge.identifier());
            ask("root " + b, x.root(b), model.root(bridge));
            ask("rootCost " + b, x.rootCost(b), model.rootCost(bridge));
            ask("rootPort " + b, x.rootPort(b), model.rootPort(bridge));
            for (int s = 0; s < model.stations.size(); s++) {
                ask("entry " + b + " " + s, x.entry(b, s), model.entry(bridge, model.stations.get(s)));
            }
        }
    }

    private void comparePorts() {
        for (Model.Port port : model.ports) {
            int p = port.number;
            ask("role " + p, x.role(p), model.role(port));
            ask("state " + p, x.state(p), model.state(port));
            for (int what = 0; what <= 4; what++) {
                ask("stored " + p + " " + what, x.stored(p, what), model.stored(port, what));
            }
        }
    }

    private void due(String call, int got, int want) {
        calls.append(call).append(" = ").append(want).append("; ");
        CHECK.due("run " + run + ": " + call, got, want);
    }

    private void ask(String call, int got, int want) {
        CHECK.due("run " + run + ": " + call, got, want);
    }
}
