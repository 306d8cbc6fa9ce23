/** A network that has loops: its last bridge is too far from the root to hear of it. */
final class Loops {
    private Loops() {
    }

    /** As behindARow(), but the row is on segments 4 to 9 and the loops are on 0 to 3. */
    static SpanningTreeProtocol onTheFirstSegments() {
        return build(4);
    }

    /**
     * Bridges 0 to 6 in a row over segments 0 to 5, with ports 0 to 11. Bridge 6 hears of
     * bridge 0 but may not tell; so it and bridge 7 (ports 12 to 15 and 16 to 19) both
     * forward on segments 6 to 9. There is a station on each of these four.
     */
    static SpanningTreeProtocol behindARow() {
        return build(0);
    }

    private static SpanningTreeProtocol build(int shift) {
        SpanningTreeProtocol x = new SpanningTreeProtocol();
        for (int bridge = 0; bridge < 8; bridge++) {
            x.addBridge(bridge);
        }
        for (int segment = 0; segment < 10; segment++) {
            x.addSegment();
        }
        for (int segment = 0; segment < 6; segment++) {
            x.addPort(segment, (segment + shift) % 10, 1);
            x.addPort(segment + 1, (segment + shift) % 10, 1);
        }
        for (int bridge = 6; bridge < 8; bridge++) {
            for (int segment = 6; segment < 10; segment++) {
                x.addPort(bridge, (segment + shift) % 10, 1);
            }
        }
        for (int segment = 6; segment < 10; segment++) {
            x.addStation((segment + shift) % 10);
        }
        return x;
    }
}
