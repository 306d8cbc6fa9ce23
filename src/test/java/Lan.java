/** Networks for the tests, each made in one call. */
final class Lan {
    private Lan() {
    }

    /** Each row of ports is a bridge, a segment and a cost. */
    static SpanningTreeProtocol of(int[] priorities, int segments, int[][] ports) {
        SpanningTreeProtocol x = new SpanningTreeProtocol();
        for (int priority : priorities) {
            x.addBridge(priority);
        }
        for (int segment = 0; segment < segments; segment++) {
            x.addSegment();
        }
        for (int[] port : ports) {
            x.addPort(port[0], port[1], port[2]);
        }
        return x;
    }

    static int[] priorities(int... priorities) {
        return priorities;
    }

    /**
     * Bridges in a row, bridge 0 the best one: bridge b has port 2b on segment b, towards
     * bridge b - 1, and port 2b + 1 on segment b + 1, towards bridge b + 1.
     */
    static SpanningTreeProtocol row(int bridges, int cost) {
        SpanningTreeProtocol x = new SpanningTreeProtocol();
        x.addSegment();
        for (int bridge = 0; bridge < bridges; bridge++) {
            x.addBridge(bridge);
            x.addSegment();
            x.addPort(bridge, bridge, cost);
            x.addPort(bridge, bridge + 1, cost);
        }
        return x;
    }

    /**
     * Bridges in a row as ports 2s and 2s + 1 on segment s, between bridges s and s + 1. Bridge 0
     * is the best one. The last bridge is the next best; its neighbour, the third best, is at the
     * given distance (up to 6) from bridge 0, so it takes the last one for the root until then.
     */
    static SpanningTreeProtocol twoRoots(int distance) {
        SpanningTreeProtocol x = new SpanningTreeProtocol();
        for (int bridge = 0; bridge <= distance + 1; bridge++) {
            x.addBridge(bridge == 0 ? 0 : bridge < distance ? 9 : bridge == distance ? 5 : 1);
        }
        for (int segment = 0; segment <= distance; segment++) {
            x.addSegment();
            x.addPort(segment, segment, 1);
            x.addPort(segment + 1, segment, 1);
        }
        return x;
    }

    /** Two bridges (identifiers 0 and 17) with a port each on one segment: ports 0 and 1. */
    static SpanningTreeProtocol pair() {
        return of(priorities(0, 1), 1, new int[][] {{0, 0, 7}, {1, 0, 9}});
    }

    /** One bridge with a port on each of some segments, and a station on each, up to eight. */
    static SpanningTreeProtocol star(int segments) {
        SpanningTreeProtocol x = new SpanningTreeProtocol();
        x.addBridge(1);
        for (int segment = 0; segment < segments; segment++) {
            x.addSegment();
            x.addPort(0, segment, 1);
            x.addStation(segment);
        }
        return x;
    }

    /** As many of everything as there may be; bridge 7 is the best one, with the identifier 7. */
    static SpanningTreeProtocol full() {
        return fillUp(new SpanningTreeProtocol());
    }

    static SpanningTreeProtocol fillUp(SpanningTreeProtocol x) {
        for (int bridge = 0; bridge < 8; bridge++) {
            x.addBridge(bridge == 7 ? 0 : 15 - bridge);
        }
        for (int segment = 0; segment < 10; segment++) {
            x.addSegment();
        }
        for (int port = 0; port < 24; port++) {
            x.addPort(port % 8, (port + port / 8) % 10, 1 + port * 4);
        }
        for (int station = 0; station < 8; station++) {
            x.addStation(station + 2);
        }
        return x;
    }
}
