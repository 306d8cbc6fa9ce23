/**
 * Each promise's errors by themselves and in every mixture, in plain rows: the codes are those
 * of the document, and the one that its description lists first is answered.
 */
public final class ErrorOrderTest {
    private static final Check CHECK = new Check();
    private static final int NO_SUCH_BRIDGE = -1, NO_SUCH_SEGMENT = -2, NO_SUCH_PORT = -3, NO_SUCH_STATION = -4;
    private static final int OUT_OF_RANGE = -5, FULL = -6, NOT_SETTLED = -7, NOT_SAVED = -8, NONE = -9;

    public static void main(String[] args) {
        addBridgeRangeThenFull();
        addSegmentFull();
        addPortBridgeSegmentCostFull();
        addStationSegmentThenFull();
        setPriorityBridgeThenRange();
        setCostPortThenRange();
        moveStationStationThenSegment();
        settleRangeThenNotSettled();
        rootsBridgeThenNone();
        storedPortThenWhatThenNone();
        sendOneCodeForBoth();
        entryBridgeThenStationThenNone();
        restoreSlotThenNotSaved();
        CHECK.end();
    }

    private static void addBridgeRangeThenFull() {
        SpanningTreeProtocol x = new SpanningTreeProtocol();
        CHECK.due("addBridge: range alone", x.addBridge(16), OUT_OF_RANGE);
        CHECK.due("addBridge: range alone, below", x.addBridge(-1), OUT_OF_RANGE);
        x = Lan.full();
        CHECK.due("addBridge: full alone", x.addBridge(15), FULL);
        CHECK.due("addBridge: full alone, at 0", x.addBridge(0), FULL);
        CHECK.due("addBridge: range and full", x.addBridge(16), OUT_OF_RANGE);
        CHECK.due("addBridge: range, below, and full", x.addBridge(-1), OUT_OF_RANGE);
        CHECK.due("addBridge: none was added", x.count(0), 8);
    }

    private static void addSegmentFull() {
        SpanningTreeProtocol x = Lan.full();
        CHECK.due("addSegment: full", x.addSegment(), FULL);
        CHECK.due("addSegment: none was added", x.count(1), 10);
        CHECK.due("addSegment: there is no eleventh", x.transmissions(10), NO_SUCH_SEGMENT);
    }

    private static void addPortBridgeSegmentCostFull() {
        SpanningTreeProtocol x = Lan.of(Lan.priorities(1), 1, new int[0][]);
        CHECK.due("addPort: bridge", x.addPort(1, 0, 1), NO_SUCH_BRIDGE);
        CHECK.due("addPort: bridge, segment", x.addPort(1, 1, 1), NO_SUCH_BRIDGE);
        CHECK.due("addPort: bridge, cost", x.addPort(1, 0, 101), NO_SUCH_BRIDGE);
        CHECK.due("addPort: bridge, segment, cost", x.addPort(1, 1, 101), NO_SUCH_BRIDGE);
        CHECK.due("addPort: segment", x.addPort(0, 1, 1), NO_SUCH_SEGMENT);
        CHECK.due("addPort: segment, cost", x.addPort(0, 1, 0), NO_SUCH_SEGMENT);
        CHECK.due("addPort: cost", x.addPort(0, 0, 0), OUT_OF_RANGE);
        x = Lan.full();
        CHECK.due("addPort: bridge, full", x.addPort(8, 0, 1), NO_SUCH_BRIDGE);
        CHECK.due("addPort: bridge, segment, full", x.addPort(8, 10, 1), NO_SUCH_BRIDGE);
        CHECK.due("addPort: bridge, cost, full", x.addPort(8, 0, 0), NO_SUCH_BRIDGE);
        CHECK.due("addPort: bridge, segment, cost, full", x.addPort(8, 10, 0), NO_SUCH_BRIDGE);
        CHECK.due("addPort: segment, full", x.addPort(7, 10, 1), NO_SUCH_SEGMENT);
        CHECK.due("addPort: segment, cost, full", x.addPort(7, 10, 101), NO_SUCH_SEGMENT);
        CHECK.due("addPort: cost, full", x.addPort(7, 9, 101), OUT_OF_RANGE);
        CHECK.due("addPort: full", x.addPort(7, 9, 100), FULL);
        CHECK.due("addPort: none was added", x.count(2), 24);
    }

    private static void addStationSegmentThenFull() {
        SpanningTreeProtocol x = Lan.of(Lan.priorities(), 1, new int[0][]);
        CHECK.due("addStation: segment", x.addStation(1), NO_SUCH_SEGMENT);
        x = Lan.full();
        CHECK.due("addStation: segment, full", x.addStation(10), NO_SUCH_SEGMENT);
        CHECK.due("addStation: segment -1, full", x.addStation(-1), NO_SUCH_SEGMENT);
        CHECK.due("addStation: full", x.addStation(9), FULL);
        CHECK.due("addStation: none was added", x.count(3), 8);
    }

    private static void setPriorityBridgeThenRange() {
        SpanningTreeProtocol x = Lan.pair();
        CHECK.due("setPriority: bridge", x.setPriority(2, 15), NO_SUCH_BRIDGE);
        CHECK.due("setPriority: bridge, range", x.setPriority(2, 16), NO_SUCH_BRIDGE);
        CHECK.due("setPriority: bridge -1, range -1", x.setPriority(-1, -1), NO_SUCH_BRIDGE);
        CHECK.due("setPriority: range", x.setPriority(1, 16), OUT_OF_RANGE);
        CHECK.due("setPriority: range, below", x.setPriority(1, -1), OUT_OF_RANGE);
        CHECK.due("setPriority: the priority stands", x.identifier(1), 17);
    }

    private static void setCostPortThenRange() {
        SpanningTreeProtocol x = Lan.pair();
        CHECK.due("setCost: port", x.setCost(2, 100), NO_SUCH_PORT);
        CHECK.due("setCost: port, range", x.setCost(2, 101), NO_SUCH_PORT);
        CHECK.due("setCost: port -1, range 0", x.setCost(-1, 0), NO_SUCH_PORT);
        CHECK.due("setCost: range", x.setCost(1, 101), OUT_OF_RANGE);
        CHECK.due("setCost: range, below", x.setCost(1, 0), OUT_OF_RANGE);
        CHECK.due("setCost: the cost stands", x.setCost(1, 1), 9);
    }

    private static void moveStationStationThenSegment() {
        SpanningTreeProtocol x = Lan.star(2);
        CHECK.due("moveStation: station", x.moveStation(2, 1), NO_SUCH_STATION);
        CHECK.due("moveStation: station, segment", x.moveStation(2, 2), NO_SUCH_STATION);
        CHECK.due("moveStation: station -1, segment -1", x.moveStation(-1, -1), NO_SUCH_STATION);
        CHECK.due("moveStation: segment", x.moveStation(1, 2), NO_SUCH_SEGMENT);
        CHECK.due("moveStation: segment -1", x.moveStation(1, -1), NO_SUCH_SEGMENT);
        CHECK.due("moveStation: the station stands", x.moveStation(1, 0), 1);
    }

    private static void settleRangeThenNotSettled() {
        SpanningTreeProtocol x = Lan.pair();
        CHECK.due("settle: 7 would not be enough, but is out of range", x.settle(7), OUT_OF_RANGE);
        CHECK.due("settle: 0", x.settle(0), OUT_OF_RANGE);
        CHECK.due("settle: 201", x.settle(201), OUT_OF_RANGE);
        CHECK.due("settle: no tick was made", x.count(4), 0);
        CHECK.due("settle: in range, not enough", x.settle(8), NOT_SETTLED);
        CHECK.due("settle: its ticks were made", x.count(4), 8);
    }

    private static void rootsBridgeThenNone() {
        SpanningTreeProtocol x = Lan.pair();
        x.setBridge(0, false);
        x.setBridge(1, false);
        int[] wrong = {-1, 2};
        for (int bridge : wrong) {
            CHECK.due("root: no bridge", x.root(bridge), NO_SUCH_BRIDGE);
            CHECK.due("rootCost: no bridge", x.rootCost(bridge), NO_SUCH_BRIDGE);
            CHECK.due("rootPort: no bridge", x.rootPort(bridge), NO_SUCH_BRIDGE);
        }
        CHECK.due("root: down", x.root(1), NONE);
        CHECK.due("rootCost: down", x.rootCost(1), NONE);
        CHECK.due("rootPort: down", x.rootPort(1), NONE);
    }

    private static void storedPortThenWhatThenNone() {
        SpanningTreeProtocol x = Lan.pair();
        CHECK.due("stored: port", x.stored(2, 4), NO_SUCH_PORT);
        CHECK.due("stored: port, what", x.stored(2, 5), NO_SUCH_PORT);
        CHECK.due("stored: port -1, what -1", x.stored(-1, -1), NO_SUCH_PORT);
        CHECK.due("stored: what, nothing stored", x.stored(1, 5), OUT_OF_RANGE);
        CHECK.due("stored: what -1, nothing stored", x.stored(1, -1), OUT_OF_RANGE);
        CHECK.due("stored: nothing stored", x.stored(1, 4), NONE);
        CHECK.due("stored: nothing stored, what 0", x.stored(1, 0), NONE);
        x.tick(1);
        CHECK.due("stored: what, something stored", x.stored(1, 5), OUT_OF_RANGE);
        CHECK.due("stored: what -1, something stored", x.stored(1, -1), OUT_OF_RANGE);
        CHECK.due("stored: 4", x.stored(1, 4), 6);
    }

    private static void sendOneCodeForBoth() {
        SpanningTreeProtocol x = Lan.star(2);
        CHECK.due("send: from", x.send(2, 0), NO_SUCH_STATION);
        CHECK.due("send: to", x.send(0, 2), NO_SUCH_STATION);
        CHECK.due("send: from, to", x.send(2, 2), NO_SUCH_STATION);
        CHECK.due("send: -1 is all as an addressee", x.send(0, -1), 1);
        CHECK.due("send: but nobody as a sender", x.send(-1, -1), NO_SUCH_STATION);
        CHECK.due("send: nor to a station", x.send(-1, 0), NO_SUCH_STATION);
        CHECK.due("send: -2 is nobody", x.send(0, -2), NO_SUCH_STATION);
        x = Lan.of(Lan.priorities(), 1, new int[0][]);
        CHECK.due("send: to all, without stations", x.send(0, -1), NO_SUCH_STATION);
    }

    private static void entryBridgeThenStationThenNone() {
        SpanningTreeProtocol x = Lan.star(2);
        CHECK.due("entry: bridge", x.entry(1, 1), NO_SUCH_BRIDGE);
        CHECK.due("entry: bridge, station", x.entry(1, 2), NO_SUCH_BRIDGE);
        CHECK.due("entry: bridge -1, station -1", x.entry(-1, -1), NO_SUCH_BRIDGE);
        CHECK.due("entry: station", x.entry(0, 2), NO_SUCH_STATION);
        CHECK.due("entry: station -1 (all is no station)", x.entry(0, -1), NO_SUCH_STATION);
        CHECK.due("entry: none", x.entry(0, 1), NONE);
        x.setBridge(0, false);
        CHECK.due("entry: none, with the bridge down", x.entry(0, 1), NONE);
    }

    private static void restoreSlotThenNotSaved() {
        SpanningTreeProtocol x = Lan.pair();
        CHECK.due("restore: slot, nothing saved", x.restore(2), OUT_OF_RANGE);
        CHECK.due("restore: slot -1, nothing saved", x.restore(-1), OUT_OF_RANGE);
        CHECK.due("restore: nothing saved in 0", x.restore(0), NOT_SAVED);
        CHECK.due("restore: nothing saved in 1", x.restore(1), NOT_SAVED);
        CHECK.due("save: slot 2", x.save(2), OUT_OF_RANGE);
        CHECK.due("save: slot -1", x.save(-1), OUT_OF_RANGE);
        CHECK.due("restore: a refused save saves nothing in 0", x.restore(0), NOT_SAVED);
        CHECK.due("restore: a refused save saves nothing in 1", x.restore(1), NOT_SAVED);
        CHECK.due("save: 0", x.save(0), 2);
        CHECK.due("restore: slot, something saved", x.restore(2), OUT_OF_RANGE);
        CHECK.due("restore: still nothing saved in 1", x.restore(1), NOT_SAVED);
    }
}
