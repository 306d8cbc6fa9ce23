/** The five examples of the document, with the answers given behind the calls. */
public final class ExamplesTest {
    private static final Check CHECK = new Check();

    public static void main(String[] args) {
        twoBridgesElectARoot();
        aRedundantPortTakesOver();
        twoPortsOfABridgeOnOneSegment();
        framesAndTableEntries();
        errorsAndAnEmptyNetwork();
        CHECK.end();
    }

    private static void twoBridgesElectARoot() {
        SpanningTreeProtocol x = new SpanningTreeProtocol();
        CHECK.due("1 addBridge(8)", x.addBridge(8), 0);
        CHECK.due("1 addBridge(4)", x.addBridge(4), 1);
        CHECK.due("1 addSegment()", x.addSegment(), 0);
        CHECK.due("1 addPort(0, 0, 10)", x.addPort(0, 0, 10), 0);
        CHECK.due("1 addPort(1, 0, 10)", x.addPort(1, 0, 10), 1);
        CHECK.due("1 tick(1)", x.tick(1), 1);
        CHECK.due("1 root(0)", x.root(0), 65);
        CHECK.due("1 rootCost(0)", x.rootCost(0), 10);
        CHECK.due("1 role(0)", x.role(0), 1);
        CHECK.due("1 role(1)", x.role(1), 2);
        CHECK.due("1 stored(0, 4)", x.stored(0, 4), 6);
        CHECK.due("1 settle(40)", x.settle(40), 12);
        CHECK.due("1 portsIn(4)", x.portsIn(4), 3);
    }

    private static void aRedundantPortTakesOver() {
        SpanningTreeProtocol x = new SpanningTreeProtocol();
        CHECK.due("2 addBridge(1)", x.addBridge(1), 0);
        CHECK.due("2 addBridge(2)", x.addBridge(2), 1);
        CHECK.due("2 addSegment()", x.addSegment(), 0);
        CHECK.due("2 addSegment()", x.addSegment(), 1);
        CHECK.due("2 addPort(0, 0, 1)", x.addPort(0, 0, 1), 0);
        CHECK.due("2 addPort(0, 1, 1)", x.addPort(0, 1, 1), 1);
        CHECK.due("2 addPort(1, 0, 1)", x.addPort(1, 0, 1), 2);
        CHECK.due("2 addPort(1, 1, 1)", x.addPort(1, 1, 1), 3);
        CHECK.due("2 settle(40)", x.settle(40), 13);
        CHECK.due("2 role(2)", x.role(2), 1);
        CHECK.due("2 role(3)", x.role(3), 3);
        CHECK.due("2 loops()", x.loops(), 0);
        CHECK.due("2 setPort(2, false)", x.setPort(2, false), 1);
        CHECK.due("2 settle(40) again", x.settle(40), 13);
        CHECK.due("2 role(3) again", x.role(3), 1);
    }

    private static void twoPortsOfABridgeOnOneSegment() {
        SpanningTreeProtocol x = new SpanningTreeProtocol();
        CHECK.due("3 addBridge(1)", x.addBridge(1), 0);
        CHECK.due("3 addSegment()", x.addSegment(), 0);
        CHECK.due("3 addPort(0, 0, 1)", x.addPort(0, 0, 1), 0);
        CHECK.due("3 addPort(0, 0, 1) again", x.addPort(0, 0, 1), 1);
        CHECK.due("3 settle(40)", x.settle(40), 13);
        CHECK.due("3 role(0)", x.role(0), 2);
        CHECK.due("3 role(1)", x.role(1), 4);
        CHECK.due("3 stored(1, 3)", x.stored(1, 3), 0);
        CHECK.due("3 state(1)", x.state(1), 1);
    }

    private static void framesAndTableEntries() {
        SpanningTreeProtocol x = new SpanningTreeProtocol();
        CHECK.due("4 addBridge(1)", x.addBridge(1), 0);
        CHECK.due("4 addSegment()", x.addSegment(), 0);
        CHECK.due("4 addSegment() again", x.addSegment(), 1);
        CHECK.due("4 addPort(0, 0, 1)", x.addPort(0, 0, 1), 0);
        CHECK.due("4 addPort(0, 1, 1)", x.addPort(0, 1, 1), 1);
        CHECK.due("4 addStation(0)", x.addStation(0), 0);
        CHECK.due("4 addStation(1)", x.addStation(1), 1);
        CHECK.due("4 settle(40)", x.settle(40), 13);
        CHECK.due("4 send(0, 1)", x.send(0, 1), 2);
        CHECK.due("4 entry(0, 0)", x.entry(0, 0), 0);
        CHECK.due("4 send(1, 0)", x.send(1, 0), 2);
        CHECK.due("4 transmissions(0)", x.transmissions(0), 1);
        CHECK.due("4 tick(10)", x.tick(10), 23);
        CHECK.due("4 entry(0, 0) again", x.entry(0, 0), -9);
    }

    private static void errorsAndAnEmptyNetwork() {
        SpanningTreeProtocol x = new SpanningTreeProtocol();
        CHECK.due("5 addBridge(16)", x.addBridge(16), -5);
        CHECK.due("5 addPort(0, 0, 0)", x.addPort(0, 0, 0), -1);
        CHECK.due("5 tick(51)", x.tick(51), -5);
        CHECK.due("5 settle(8)", x.settle(8), 8);
        CHECK.due("5 root(0)", x.root(0), -1);
        CHECK.due("5 send(0, -1)", x.send(0, -1), -4);
    }
}
