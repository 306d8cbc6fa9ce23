/** Promises 1 to 10: a new object, and the calls that build and change the network. */
public final class NetworkTest {
    private static final Check CHECK = new Check();
    private static final int MIN = Integer.MIN_VALUE, MAX = Integer.MAX_VALUE;

    public static void main(String[] args) {
        promise1NewObject();
        promise2AddBridge();
        promise3AddSegment();
        promise4AddPort();
        promise5AddStation();
        promise6SetPriority();
        promise7SetCost();
        promise8SetBridge();
        promise9SetPort();
        promise8And9ActivityNeedsBoth();
        promise10MoveStation();
        CHECK.end();
    }

    private static void promise1NewObject() {
        SpanningTreeProtocol x = new SpanningTreeProtocol();
        for (int what = 0; what <= 4; what++) {
            CHECK.due("p1 count(" + what + ")", x.count(what), 0);
        }
        for (int state = 0; state <= 4; state++) {
            CHECK.due("p1 portsIn(" + state + ")", x.portsIn(state), 0);
        }
        CHECK.due("p1 parts()", x.parts(), 0);
        CHECK.due("p1 loops()", x.loops(), 0);
        CHECK.due("p1 restore(0)", x.restore(0), SpanningTreeProtocol.NOT_SAVED);
        CHECK.due("p1 restore(1)", x.restore(1), SpanningTreeProtocol.NOT_SAVED);
        CHECK.due("p1 identifier(0)", x.identifier(0), SpanningTreeProtocol.NO_SUCH_BRIDGE);
        CHECK.due("p1 transmissions(0)", x.transmissions(0), SpanningTreeProtocol.NO_SUCH_SEGMENT);
        CHECK.due("p1 role(0)", x.role(0), SpanningTreeProtocol.NO_SUCH_PORT);
        x.addBridge(3);
        CHECK.due("p1 objects share nothing", new SpanningTreeProtocol().count(0), 0);
    }

    private static void promise2AddBridge() {
        SpanningTreeProtocol x = new SpanningTreeProtocol();
        CHECK.due("p2 -1", x.addBridge(-1), SpanningTreeProtocol.OUT_OF_RANGE);
        CHECK.due("p2 16", x.addBridge(16), SpanningTreeProtocol.OUT_OF_RANGE);
        CHECK.due("p2 MIN", x.addBridge(MIN), SpanningTreeProtocol.OUT_OF_RANGE);
        CHECK.due("p2 MAX", x.addBridge(MAX), SpanningTreeProtocol.OUT_OF_RANGE);
        CHECK.due("p2 errors add nothing", x.count(0), 0);
        for (int bridge = 0; bridge < 8; bridge++) {
            int priority = bridge == 7 ? 15 : bridge;
            CHECK.due("p2 addBridge", x.addBridge(priority), bridge);
            CHECK.due("p2 identifier", x.identifier(bridge), 16 * priority + bridge);
            CHECK.due("p2 a new bridge is up", x.root(bridge), 16 * priority + bridge);
        }
        CHECK.due("p2 full", x.addBridge(0), SpanningTreeProtocol.FULL);
        CHECK.due("p2 range before full", x.addBridge(16), SpanningTreeProtocol.OUT_OF_RANGE);
        CHECK.due("p2 count", x.count(0), 8);
    }

    private static void promise3AddSegment() {
        SpanningTreeProtocol x = new SpanningTreeProtocol();
        for (int segment = 0; segment < 10; segment++) {
            CHECK.due("p3 addSegment", x.addSegment(), segment);
            CHECK.due("p3 transmissions", x.transmissions(segment), 0);
        }
        CHECK.due("p3 full", x.addSegment(), SpanningTreeProtocol.FULL);
        CHECK.due("p3 count", x.count(1), 10);
        CHECK.due("p3 parts", x.parts(), 10);
    }

    private static void promise4AddPort() {
        SpanningTreeProtocol x = new SpanningTreeProtocol();
        CHECK.due("p4 bridge first", x.addPort(0, 0, 0), SpanningTreeProtocol.NO_SUCH_BRIDGE);
        x.addBridge(1);
        CHECK.due("p4 segment second", x.addPort(0, 0, 0), SpanningTreeProtocol.NO_SUCH_SEGMENT);
        x.addSegment();
        CHECK.due("p4 bridge -1", x.addPort(-1, 0, 1), SpanningTreeProtocol.NO_SUCH_BRIDGE);
        CHECK.due("p4 bridge MIN", x.addPort(MIN, 0, 1), SpanningTreeProtocol.NO_SUCH_BRIDGE);
        CHECK.due("p4 segment -1", x.addPort(0, -1, 1), SpanningTreeProtocol.NO_SUCH_SEGMENT);
        CHECK.due("p4 segment MAX", x.addPort(0, MAX, 1), SpanningTreeProtocol.NO_SUCH_SEGMENT);
        CHECK.due("p4 cost 0", x.addPort(0, 0, 0), SpanningTreeProtocol.OUT_OF_RANGE);
        CHECK.due("p4 cost 101", x.addPort(0, 0, 101), SpanningTreeProtocol.OUT_OF_RANGE);
        CHECK.due("p4 cost MIN", x.addPort(0, 0, MIN), SpanningTreeProtocol.OUT_OF_RANGE);
        CHECK.due("p4 errors add nothing", x.count(2), 0);
        CHECK.due("p4 cost 1", x.addPort(0, 0, 1), 0);
        CHECK.due("p4 cost 100", x.addPort(0, 0, 100), 1);
        CHECK.due("p4 a new port is blocking", x.state(1), SpanningTreeProtocol.BLOCKING);
        CHECK.due("p4 a new port is designated", x.role(1), SpanningTreeProtocol.DESIGNATED);
        CHECK.due("p4 a new port stores nothing", x.stored(1, 0), SpanningTreeProtocol.NONE);
        CHECK.due("p4 a new port is up", x.setPort(1, true), 1);
        x.setBridge(0, false);
        CHECK.due("p4 on a bridge that is down", x.addPort(0, 0, 5), 2);
        CHECK.due("p4 its state", x.state(2), SpanningTreeProtocol.OFF);
        CHECK.due("p4 its role", x.role(2), SpanningTreeProtocol.DISABLED);
        CHECK.due("p4 it is up all the same", x.setPort(2, true), 1);
        x.setBridge(0, true);
        CHECK.due("p4 its state with the bridge up", x.state(2), SpanningTreeProtocol.BLOCKING);
        for (int port = 3; port < 24; port++) {
            CHECK.due("p4 addPort", x.addPort(0, 0, port), port);
        }
        CHECK.due("p4 full", x.addPort(0, 0, 1), SpanningTreeProtocol.FULL);
        CHECK.due("p4 range before full", x.addPort(0, 0, 0), SpanningTreeProtocol.OUT_OF_RANGE);
        CHECK.due("p4 segment before full", x.addPort(0, 1, 1), SpanningTreeProtocol.NO_SUCH_SEGMENT);
        CHECK.due("p4 count", x.count(2), 24);
        CHECK.due("p4 the last one's cost", x.setCost(23, 7), 23);
    }

    private static void promise5AddStation() {
        SpanningTreeProtocol x = new SpanningTreeProtocol();
        CHECK.due("p5 no segment", x.addStation(0), SpanningTreeProtocol.NO_SUCH_SEGMENT);
        x.addSegment();
        x.addSegment();
        CHECK.due("p5 -1", x.addStation(-1), SpanningTreeProtocol.NO_SUCH_SEGMENT);
        CHECK.due("p5 2", x.addStation(2), SpanningTreeProtocol.NO_SUCH_SEGMENT);
        CHECK.due("p5 MAX", x.addStation(MAX), SpanningTreeProtocol.NO_SUCH_SEGMENT);
        for (int station = 0; station < 8; station++) {
            CHECK.due("p5 addStation", x.addStation(station % 2), station);
        }
        CHECK.due("p5 full", x.addStation(0), SpanningTreeProtocol.FULL);
        CHECK.due("p5 segment before full", x.addStation(2), SpanningTreeProtocol.NO_SUCH_SEGMENT);
        CHECK.due("p5 count", x.count(3), 8);
        CHECK.due("p5 the segment is kept", x.moveStation(7, 0), 1);
    }

    private static void promise6SetPriority() {
        SpanningTreeProtocol x = new SpanningTreeProtocol();
        CHECK.due("p6 bridge first", x.setPriority(0, 16), SpanningTreeProtocol.NO_SUCH_BRIDGE);
        x.addBridge(9);
        x.addBridge(2);
        CHECK.due("p6 -1", x.setPriority(0, -1), SpanningTreeProtocol.OUT_OF_RANGE);
        CHECK.due("p6 16", x.setPriority(0, 16), SpanningTreeProtocol.OUT_OF_RANGE);
        CHECK.due("p6 bridge -1", x.setPriority(-1, 0), SpanningTreeProtocol.NO_SUCH_BRIDGE);
        CHECK.due("p6 bridge 2", x.setPriority(2, 0), SpanningTreeProtocol.NO_SUCH_BRIDGE);
        CHECK.due("p6 errors change nothing", x.identifier(0), 144);
        CHECK.due("p6 15", x.setPriority(0, 15), 9);
        CHECK.due("p6 0", x.setPriority(0, 0), 15);
        CHECK.due("p6 identifier", x.identifier(0), 0);
        x.setPriority(0, 9);
        x.addSegment();
        x.addPort(0, 0, 4);
        x.addPort(1, 0, 4);
        x.tick(10);
        CHECK.due("p6 previous", x.setPriority(1, 14), 2);
        CHECK.due("p6 the stored root stays", x.stored(0, 0), 33);
        CHECK.due("p6 the stored sender stays", x.stored(0, 2), 33);
        CHECK.due("p6 the root follows what is stored", x.root(0), 33);
        CHECK.due("p6 the own root changes at once", x.root(1), 225);
        x.setBridge(1, false);
        CHECK.due("p6 a bridge that is down", x.setPriority(1, 3), 14);
        CHECK.due("p6 identifier of a bridge that is down", x.identifier(1), 49);
        ownOldMessageCountsAsForeign();
    }

    /** A bridge that changes its identifier takes a message of its own former one as another's. */
    private static void ownOldMessageCountsAsForeign() {
        SpanningTreeProtocol x = new SpanningTreeProtocol();
        x.addBridge(1);
        x.addSegment();
        x.addPort(0, 0, 3);
        x.addPort(0, 0, 3);
        x.tick(1);
        CHECK.due("p6 backup before", x.role(1), SpanningTreeProtocol.BACKUP);
        x.setPriority(0, 2);
        CHECK.due("p6 root is the former self", x.root(0), 16);
        CHECK.due("p6 cost to the former self", x.rootCost(0), 3);
        // Both ports sent in the first tick and hold the other's message; port 0's is the better one.
        CHECK.due("p6 root port to the former self", x.rootPort(0), 1);
        x.setPriority(0, 0);
        CHECK.due("p6 better than the former self", x.root(0), 0);
        CHECK.due("p6 designated over the former self", x.role(1), SpanningTreeProtocol.DESIGNATED);
    }

    private static void promise7SetCost() {
        SpanningTreeProtocol x = new SpanningTreeProtocol();
        CHECK.due("p7 port first", x.setCost(0, 0), SpanningTreeProtocol.NO_SUCH_PORT);
        x.addBridge(2);
        x.addBridge(1);
        x.addSegment();
        x.addPort(0, 0, 20);
        x.addPort(1, 0, 30);
        CHECK.due("p7 0", x.setCost(0, 0), SpanningTreeProtocol.OUT_OF_RANGE);
        CHECK.due("p7 101", x.setCost(0, 101), SpanningTreeProtocol.OUT_OF_RANGE);
        CHECK.due("p7 port -1", x.setCost(-1, 1), SpanningTreeProtocol.NO_SUCH_PORT);
        CHECK.due("p7 port 2", x.setCost(2, 1), SpanningTreeProtocol.NO_SUCH_PORT);
        CHECK.due("p7 100", x.setCost(0, 100), 20);
        CHECK.due("p7 1", x.setCost(0, 1), 100);
        x.tick(1);
        CHECK.due("p7 cost", x.rootCost(0), 1);
        CHECK.due("p7 50", x.setCost(0, 50), 1);
        CHECK.due("p7 the root cost follows at once", x.rootCost(0), 50);
        CHECK.due("p7 the stored cost stays", x.stored(0, 1), 0);
        CHECK.due("p7 the other port's cost", x.setCost(1, 3), 30);
    }

    private static void promise8SetBridge() {
        SpanningTreeProtocol x = new SpanningTreeProtocol();
        CHECK.due("p8 no bridge", x.setBridge(0, true), SpanningTreeProtocol.NO_SUCH_BRIDGE);
        x.addBridge(2);
        x.addBridge(1);
        x.addSegment();
        x.addSegment();
        x.addPort(0, 0, 5);
        x.addPort(1, 0, 5);
        x.addPort(0, 1, 5);
        x.addStation(0);
        x.addStation(1);
        CHECK.due("p8 -1", x.setBridge(-1, false), SpanningTreeProtocol.NO_SUCH_BRIDGE);
        CHECK.due("p8 2", x.setBridge(2, false), SpanningTreeProtocol.NO_SUCH_BRIDGE);
        x.settle(50);
        x.send(0, -1);
        x.send(1, -1);
        CHECK.due("p8 entry before", x.entry(0, 0), 0);
        CHECK.due("p8 entry of the other port before", x.entry(0, 1), 2);
        CHECK.due("p8 up again changes nothing", x.setBridge(0, true), 1);
        CHECK.due("p8 message kept", x.stored(0, 2), 17);
        CHECK.due("p8 state kept", x.state(0), SpanningTreeProtocol.FORWARDING);
        CHECK.due("p8 entry kept", x.entry(0, 0), 0);
        CHECK.due("p8 down", x.setBridge(0, false), 1);
        CHECK.due("p8 down again", x.setBridge(0, false), 0);
        CHECK.due("p8 message lost", x.stored(0, 2), SpanningTreeProtocol.NONE);
        CHECK.due("p8 state off", x.state(0), SpanningTreeProtocol.OFF);
        CHECK.due("p8 all ports off", x.portsIn(0), 5);
        CHECK.due("p8 role disabled", x.role(0), SpanningTreeProtocol.DISABLED);
        CHECK.due("p8 entries lost", x.entry(0, 0), SpanningTreeProtocol.NONE);
        CHECK.due("p8 entries lost for each port", x.entry(0, 1), SpanningTreeProtocol.NONE);
        CHECK.due("p8 the other bridge keeps its entries", x.entry(1, 0), 1);
        CHECK.due("p8 no root", x.root(0), SpanningTreeProtocol.NONE);
        x.tick(3);
        CHECK.due("p8 stays off in ticks", x.state(0), SpanningTreeProtocol.OFF);
        CHECK.due("p8 hears nothing", x.stored(0, 0), SpanningTreeProtocol.NONE);
        CHECK.due("p8 up", x.setBridge(0, true), 0);
        CHECK.due("p8 blocking", x.state(0), SpanningTreeProtocol.BLOCKING);
        CHECK.due("p8 designated", x.role(0), SpanningTreeProtocol.DESIGNATED);
        CHECK.due("p8 still no message", x.stored(0, 0), SpanningTreeProtocol.NONE);
        x.tick(1);
        CHECK.due("p8 counts from the start", x.state(0), SpanningTreeProtocol.LISTENING);
    }

    private static void promise9SetPort() {
        SpanningTreeProtocol x = new SpanningTreeProtocol();
        CHECK.due("p9 no port", x.setPort(0, true), SpanningTreeProtocol.NO_SUCH_PORT);
        x.addBridge(2);
        x.addBridge(1);
        x.addSegment();
        x.addSegment();
        x.addPort(0, 0, 5);
        x.addPort(1, 0, 5);
        x.addPort(0, 1, 5);
        x.addStation(0);
        x.addStation(1);
        CHECK.due("p9 -1", x.setPort(-1, false), SpanningTreeProtocol.NO_SUCH_PORT);
        CHECK.due("p9 3", x.setPort(3, false), SpanningTreeProtocol.NO_SUCH_PORT);
        x.settle(50);
        x.send(0, -1);
        x.send(1, -1);
        CHECK.due("p9 up again changes nothing", x.setPort(0, true), 1);
        CHECK.due("p9 message kept", x.stored(0, 0), 17);
        CHECK.due("p9 entry kept", x.entry(0, 0), 0);
        CHECK.due("p9 down", x.setPort(0, false), 1);
        CHECK.due("p9 down again", x.setPort(0, false), 0);
        CHECK.due("p9 message lost", x.stored(0, 0), SpanningTreeProtocol.NONE);
        CHECK.due("p9 state", x.state(0), SpanningTreeProtocol.OFF);
        CHECK.due("p9 role", x.role(0), SpanningTreeProtocol.DISABLED);
        CHECK.due("p9 entry lost", x.entry(0, 0), SpanningTreeProtocol.NONE);
        CHECK.due("p9 the other port's entry stays", x.entry(0, 1), 2);
        CHECK.due("p9 another bridge's entry stays", x.entry(1, 1), 1);
        CHECK.due("p9 the bridge is its own root", x.root(0), 32);
        CHECK.due("p9 the other port stays", x.state(2), SpanningTreeProtocol.FORWARDING);
        CHECK.due("p9 up", x.setPort(0, true), 0);
        CHECK.due("p9 blocking", x.state(0), SpanningTreeProtocol.BLOCKING);
    }

    private static void promise8And9ActivityNeedsBoth() {
        SpanningTreeProtocol x = new SpanningTreeProtocol();
        x.addBridge(2);
        x.addSegment();
        x.addPort(0, 0, 5);
        x.addPort(0, 0, 5);
        x.tick(5);
        x.setPort(0, false);
        x.setBridge(0, false);
        CHECK.due("p9 with the bridge down", x.setPort(0, true), 0);
        CHECK.due("p9 still off", x.state(0), SpanningTreeProtocol.OFF);
        CHECK.due("p9 down with the bridge down", x.setPort(1, false), 1);
        x.setBridge(0, true);
        CHECK.due("p9 active now", x.state(0), SpanningTreeProtocol.BLOCKING);
        CHECK.due("p9 not active", x.state(1), SpanningTreeProtocol.OFF);
        CHECK.due("p9 not active, by role", x.role(1), SpanningTreeProtocol.DISABLED);
        x.tick(2);
        CHECK.due("p9 nobody else sent", x.stored(0, 0), SpanningTreeProtocol.NONE);
    }

    private static void promise10MoveStation() {
        SpanningTreeProtocol x = new SpanningTreeProtocol();
        CHECK.due("p10 station first", x.moveStation(0, 0), SpanningTreeProtocol.NO_SUCH_STATION);
        x.addSegment();
        x.addSegment();
        x.addStation(0);
        CHECK.due("p10 -1", x.moveStation(-1, 0), SpanningTreeProtocol.NO_SUCH_STATION);
        CHECK.due("p10 1", x.moveStation(1, 5), SpanningTreeProtocol.NO_SUCH_STATION);
        CHECK.due("p10 segment -1", x.moveStation(0, -1), SpanningTreeProtocol.NO_SUCH_SEGMENT);
        CHECK.due("p10 segment 2", x.moveStation(0, 2), SpanningTreeProtocol.NO_SUCH_SEGMENT);
        CHECK.due("p10 move", x.moveStation(0, 1), 0);
        x.send(0, -1);
        CHECK.due("p10 sends from there", x.transmissions(1), 1);
        CHECK.due("p10 and not from here", x.transmissions(0), 0);
        CHECK.due("p10 move to the same", x.moveStation(0, 1), 1);
        x.addBridge(1);
        x.addPort(0, 0, 1);
        x.addPort(0, 1, 1);
        x.settle(20);
        x.send(0, -1);
        x.moveStation(0, 0);
        CHECK.due("p10 tables do not notice", x.entry(0, 0), 1);
    }
}
