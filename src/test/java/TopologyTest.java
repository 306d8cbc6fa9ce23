/** Promises 20 to 22: sets of ports, parts and loops. */
public final class TopologyTest {
    private static final Check CHECK = new Check();

    public static void main(String[] args) {
        promise20PortsIn();
        promise21Parts();
        promise22Loops();
        CHECK.end();
    }

    private static void promise20PortsIn() {
        SpanningTreeProtocol x = new SpanningTreeProtocol();
        int[] wrong = {-1, 5, Integer.MIN_VALUE, Integer.MAX_VALUE};
        for (int state : wrong) {
            CHECK.due("p20 " + state, x.portsIn(state), SpanningTreeProtocol.OUT_OF_RANGE);
        }
        x.addBridge(0);
        x.addSegment();
        for (int port = 0; port < 24; port++) {
            x.addPort(0, 0, 1);
        }
        CHECK.due("p20 all blocking", x.portsIn(1), (1 << 24) - 1);
        CHECK.due("p20 none off", x.portsIn(0), 0);
        x.setPort(23, false);
        x.setPort(5, false);
        CHECK.due("p20 two off", x.portsIn(0), (1 << 23) | (1 << 5));
        x.tick(1);
        CHECK.due("p20 one listening", x.portsIn(2), 1);
        x.tick(2);
        CHECK.due("p20 one learning", x.portsIn(3), 1);
        x.tick(2);
        CHECK.due("p20 one forwarding", x.portsIn(4), 1);
        CHECK.due("p20 the rest blocking", x.portsIn(1), ((1 << 23) - 1) & ~(1 << 5) & ~1);
    }

    private static void promise21Parts() {
        SpanningTreeProtocol x = new SpanningTreeProtocol();
        x.addBridge(0);
        x.addBridge(1);
        CHECK.due("p21 two bridges", x.parts(), 2);
        x.addSegment();
        x.addSegment();
        x.addSegment();
        CHECK.due("p21 and three segments", x.parts(), 5);
        x.addPort(0, 0, 1);
        x.addPort(0, 1, 1);
        x.addPort(1, 1, 1);
        x.addPort(1, 0, 1);
        CHECK.due("p21 ports that do not forward join nothing", x.parts(), 5);
        x.tick(4);
        CHECK.due("p21 learning ports neither", x.parts(), 5);
        x.tick(1);
        CHECK.due("p21 forwarding ports do", x.parts(), 2);
        x.setBridge(1, false);
        CHECK.due("p21 a bridge that is down is no vertex", x.parts(), 2);
        x.setBridge(0, false);
        CHECK.due("p21 segments always are", x.parts(), 3);
        x.setBridge(0, true);
        CHECK.due("p21 up again, but blocking", x.parts(), 4);
    }

    private static void promise22Loops() {
        SpanningTreeProtocol x = new SpanningTreeProtocol();
        x.addSegment();
        x.addSegment();
        x.addBridge(0);
        x.addBridge(1);
        x.addPort(0, 0, 1);
        x.addPort(0, 1, 1);
        x.settle(20);
        CHECK.due("p22 no loop", x.loops(), 0);
        x.addPort(1, 0, 1);
        x.addPort(1, 1, 1);
        x.setBridge(0, false);
        x.settle(40);
        CHECK.due("p22 no loop with the other bridge", x.loops(), 0);
        CHECK.due("p22 its ports forward", x.portsIn(4), 12);
        backupPortsMakeNoLoop();
        aRingIsCut();
        loopsWhereMessagesAreTooOld();
    }

    private static void backupPortsMakeNoLoop() {
        SpanningTreeProtocol x = new SpanningTreeProtocol();
        x.addSegment();
        x.addBridge(0);
        for (int port = 0; port < 4; port++) {
            x.addPort(0, 0, 1);
        }
        x.settle(40);
        CHECK.due("p22 backup ports make no loop", x.loops(), 0);
        CHECK.due("p22 and one part", x.parts(), 1);
    }

    private static void aRingIsCut() {
        SpanningTreeProtocol x = new SpanningTreeProtocol();
        for (int bridge = 0; bridge < 8; bridge++) {
            x.addBridge(bridge);
            x.addSegment();
        }
        for (int bridge = 0; bridge < 8; bridge++) {
            x.addPort(bridge, bridge, 1);
            x.addPort(bridge, (bridge + 1) % 8, 1);
        }
        x.settle(200);
        CHECK.due("p22 a ring of eight is cut", x.loops(), 0);
        CHECK.due("p22 and stays one part", x.parts(), 1);
        x.setPort(15, false);
        x.settle(200);
        CHECK.due("p22 a row of eight", x.loops(), 0);
        CHECK.due("p22 is one part", x.parts(), 1);
    }

    private static void loopsWhereMessagesAreTooOld() {
        SpanningTreeProtocol x = Loops.behindARow();
        CHECK.due("p22 before anything forwards", x.loops(), 0);
        x.tick(4);
        CHECK.due("p22 while ports learn", x.loops(), 0);
        x.settle(100);
        CHECK.due("p22 four joints of two bridges", x.loops(), 3);
        CHECK.due("p21 one part all the same", x.parts(), 1);
        x.setPort(19, false);
        CHECK.due("p22 three joints", x.loops(), 2);
        CHECK.due("p21 still one part", x.parts(), 1);
        x.setBridge(7, false);
        CHECK.due("p22 no joint", x.loops(), 0);
        CHECK.due("p21 still one part without bridge 7", x.parts(), 1);
    }
}
