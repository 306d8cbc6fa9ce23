import java.util.function.Supplier;

/**
 * "A call that returns an error code changes nothing" and "when several errors apply, a method
 * returns the one that its description lists first": every method with every mixture of
 * arguments from the edges of all ranges, in networks from empty to full.
 */
public final class RefusedTest {
    private static final Check CHECK = new Check();
    private static final int MIN = Integer.MIN_VALUE, MAX = Integer.MAX_VALUE;
    private static final int[] EDGES = {
        MIN, MIN + 1, -65536, -256, -16, -2, -1, 0, 1, 2, 3, 4, 5, 7, 8, 9, 10, 15, 16, 23, 24, 50, 51,
        100, 101, 200, 201, 256, 65536, MAX - 1, MAX
    };
    private static final int[] NO_ARGUMENT = {0};
    private static final int[] SWITCH = {0, 1};

    private interface Call {
        int on(SpanningTreeProtocol x, int a, int b, int c);
    }

    /** The error that is due, or 0 where the call is not refused. */
    private interface Due {
        int in(Size n, int a, int b, int c);
    }

    private record Size(int bridges, int segments, int ports, int stations, int savedSlots) {
    }

    private record Method(String name, Call call, Due due, int[] as, int[] bs, int[] cs) {
    }

    private static final Method[] METHODS = {
        one("addBridge", (x, a, b, c) -> x.addBridge(a),
                (n, a, b, c) -> first(range(a, 0, 15), full(n.bridges, 8))),
        new Method("addSegment", (x, a, b, c) -> x.addSegment(),
                (n, a, b, c) -> full(n.segments, 10), NO_ARGUMENT, NO_ARGUMENT, NO_ARGUMENT),
        new Method("addPort", (x, a, b, c) -> x.addPort(a, b, c),
                (n, a, b, c) -> first(bridge(n, a), segment(n, b), range(c, 1, 100), full(n.ports, 24)),
                EDGES, EDGES, EDGES),
        one("addStation", (x, a, b, c) -> x.addStation(a),
                (n, a, b, c) -> first(segment(n, a), full(n.stations, 8))),
        two("setPriority", (x, a, b, c) -> x.setPriority(a, b),
                (n, a, b, c) -> first(bridge(n, a), range(b, 0, 15))),
        two("setCost", (x, a, b, c) -> x.setCost(a, b),
                (n, a, b, c) -> first(port(n, a), range(b, 1, 100))),
        new Method("setBridge", (x, a, b, c) -> x.setBridge(a, b == 1),
                (n, a, b, c) -> bridge(n, a), EDGES, SWITCH, NO_ARGUMENT),
        new Method("setPort", (x, a, b, c) -> x.setPort(a, b == 1),
                (n, a, b, c) -> port(n, a), EDGES, SWITCH, NO_ARGUMENT),
        two("moveStation", (x, a, b, c) -> x.moveStation(a, b),
                (n, a, b, c) -> first(station(n, a), segment(n, b))),
        one("tick", (x, a, b, c) -> x.tick(a), (n, a, b, c) -> range(a, 1, 50)),
        one("settle", (x, a, b, c) -> x.settle(a), (n, a, b, c) -> range(a, 8, 200)),
        one("identifier", (x, a, b, c) -> x.identifier(a), (n, a, b, c) -> bridge(n, a)),
        one("root", (x, a, b, c) -> x.root(a), (n, a, b, c) -> bridge(n, a)),
        one("rootCost", (x, a, b, c) -> x.rootCost(a), (n, a, b, c) -> bridge(n, a)),
        one("rootPort", (x, a, b, c) -> x.rootPort(a), (n, a, b, c) -> bridge(n, a)),
        one("role", (x, a, b, c) -> x.role(a), (n, a, b, c) -> port(n, a)),
        one("state", (x, a, b, c) -> x.state(a), (n, a, b, c) -> port(n, a)),
        two("stored", (x, a, b, c) -> x.stored(a, b), (n, a, b, c) -> first(port(n, a), range(b, 0, 4))),
        one("portsIn", (x, a, b, c) -> x.portsIn(a), (n, a, b, c) -> range(a, 0, 4)),
        two("send", (x, a, b, c) -> x.send(a, b),
                (n, a, b, c) -> first(station(n, a), b == -1 ? 0 : station(n, b))),
        one("transmissions", (x, a, b, c) -> x.transmissions(a), (n, a, b, c) -> segment(n, a)),
        two("entry", (x, a, b, c) -> x.entry(a, b), (n, a, b, c) -> first(bridge(n, a), station(n, b))),
        one("count", (x, a, b, c) -> x.count(a), (n, a, b, c) -> range(a, 0, 4)),
        one("save", (x, a, b, c) -> x.save(a), (n, a, b, c) -> range(a, 0, 1)),
        one("restore", (x, a, b, c) -> x.restore(a),
                (n, a, b, c) -> first(range(a, 0, 1), (n.savedSlots >> a & 1) == 1 ? 0 : -8)),
    };

    public static void main(String[] args) {
        sweep("an empty network", SpanningTreeProtocol::new, new Size(0, 0, 0, 0, 0));
        sweep("bridges alone", () -> Lan.of(Lan.priorities(3, 3), 0, new int[0][]), new Size(2, 0, 0, 0, 0));
        sweep("segments alone", RefusedTest::segmentsAlone, new Size(0, 10, 0, 8, 1));
        sweep("a running network", RefusedTest::running, new Size(3, 2, 5, 2, 2));
        sweep("a full network", RefusedTest::fullAndRunning, new Size(8, 10, 24, 8, 3));
        CHECK.end();
    }

    private static SpanningTreeProtocol segmentsAlone() {
        SpanningTreeProtocol x = Lan.of(Lan.priorities(), 10, new int[0][]);
        for (int station = 0; station < 8; station++) {
            x.addStation(station);
        }
        x.save(0);
        return x;
    }

    /** With counters, lifetimes and entries half run down, something down, and a frame sent. */
    private static SpanningTreeProtocol running() {
        SpanningTreeProtocol x = Lan.of(Lan.priorities(2, 1, 9), 2,
                new int[][] {{0, 0, 3}, {0, 1, 5}, {1, 0, 7}, {1, 1, 2}, {2, 1, 4}});
        x.addStation(0);
        x.addStation(1);
        x.save(1);
        x.tick(7);
        x.send(0, -1);
        x.tick(3);
        x.send(1, 0);
        x.setPort(4, false);
        x.setPort(2, false);
        x.setPort(2, true);
        x.tick(2);
        return x;
    }

    private static SpanningTreeProtocol fullAndRunning() {
        SpanningTreeProtocol x = Lan.full();
        x.save(0);
        x.tick(9);
        for (int station = 0; station < 8; station++) {
            x.send(station, -1);
            x.tick(1);
        }
        x.setPort(11, false);
        x.setBridge(2, false);
        x.save(1);
        x.tick(3);
        return x;
    }

    private static void sweep(String name, Supplier<SpanningTreeProtocol> network, Size size) {
        String untouched = Probe.ofAll(network.get());
        for (Method method : METHODS) {
            SpanningTreeProtocol x = network.get();
            int refused = refuseAll(name, method, x, size);
            if (refused > 0) {
                CHECK.holds(name + ": " + refused + " refused calls of " + method.name + " change nothing",
                        untouched.equals(Probe.ofAll(x)));
            }
        }
    }

    private static int refuseAll(String name, Method method, SpanningTreeProtocol x, Size size) {
        String before = Answers.ofAllQuestions(x);
        int refused = 0;
        for (int a : method.as) {
            int refusedBefore = refused;
            for (int b : method.bs) {
                for (int c : method.cs) {
                    int due = method.due.in(size, a, b, c);
                    if (due != 0) {
                        refused++;
                        CHECK.due(name + ": " + method.name + " of " + a + ", " + b + ", " + c, method.call.on(x, a, b, c), due);
                    }
                }
            }
            if (refused > refusedBefore) {
                CHECK.holds(name + ": refused calls of " + method.name + " of " + a + " change no answer",
                        before.equals(Answers.ofAllQuestions(x)));
            }
        }
        return refused;
    }

    private static Method one(String name, Call call, Due due) {
        return new Method(name, call, due, EDGES, NO_ARGUMENT, NO_ARGUMENT);
    }

    private static Method two(String name, Call call, Due due) {
        return new Method(name, call, due, EDGES, EDGES, NO_ARGUMENT);
    }

    private static int first(int... errors) {
        for (int error : errors) {
            if (error != 0) {
                return error;
            }
        }
        return 0;
    }

    private static int bridge(Size n, int number) {
        return number >= 0 && number < n.bridges ? 0 : -1;
    }

    private static int segment(Size n, int number) {
        return number >= 0 && number < n.segments ? 0 : -2;
    }

    private static int port(Size n, int number) {
        return number >= 0 && number < n.ports ? 0 : -3;
    }

    private static int station(Size n, int number) {
        return number >= 0 && number < n.stations ? 0 : -4;
    }

    private static int range(int value, int from, int to) {
        return value >= from && value <= to ? 0 : -5;
    }

    private static int full(int count, int limit) {
        return count < limit ? 0 : -6;
    }
}
