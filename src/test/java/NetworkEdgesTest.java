/**
 * The sentences of the document's Description on calls in general, NETWORK and MESSAGES that
 * bound something: a method for each, which begins with the sentence.
 */
public final class NetworkEdgesTest {
    private static final Check CHECK = new Check();
    private static final int NOT_SETTLED = -7, NONE = -9;
    private static final int DISABLED = 0, ROOT = 1, DESIGNATED = 2, ALTERNATE = 3, BACKUP = 4;
    private static final int OFF = 0, BLOCKING = 1;

    public static void main(String[] args) {
        upTo512Calls();
        settleIsTheException();
        noneIsNoError();
        numbersInTheOrderOfAdding();
        theLastOfEachIsAsGoodAsAny();
        identifiersFromEndToEnd();
        costsFromEndToEnd();
        severalPortsOnOneSegment();
        initiallyUp();
        activeIfBothAreUp();
        theRootDecidesFirst();
        theCostDecidesNext();
        theSenderDecidesNext();
        theSendingPortDecidesLast();
        lifetimesFrom6To1();
        atMostOneMessage();
        aPortThatBecomesInactiveLosesItsMessage();
        aPortThatBecomesActiveHasNone();
        CHECK.end();
    }

    /** "An object is used for at most 512 calls": the 512th is answered as the first. */
    private static void upTo512Calls() {
        SpanningTreeProtocol x = Lan.pair();
        int before = 2 + 1 + 2;
        int ticks = 512 - before - 1;
        for (int call = 1; call <= ticks; call++) {
            CHECK.due("512 calls: tick " + call, x.tick(50), 50 * call);
        }
        CHECK.due("512 calls: the last one", x.count(4), 50 * ticks);
    }

    /** "A call that returns an error code changes nothing, except settle() when it returns NOT_SETTLED." */
    private static void settleIsTheException() {
        for (int limit = 8; limit <= 12; limit++) {
            SpanningTreeProtocol x = Lan.row(3, 5);
            SpanningTreeProtocol y = Lan.row(3, 5);
            CHECK.due("settle too short", x.settle(limit), NOT_SETTLED);
            y.tick(limit);
            CHECK.due("settle too short: its time", x.count(4), limit);
            CHECK.holds("settle(" + limit + ") that fails does as tick(" + limit + ") does",
                    Probe.ofAll(x).equals(Probe.ofAll(y)));
        }
    }

    /** "NONE is not an error; it is returned only if no error applies." */
    private static void noneIsNoError() {
        SpanningTreeProtocol x = Lan.pair();
        x.addStation(0);
        x.setBridge(1, false);
        CHECK.due("NONE: root", x.root(1), NONE);
        CHECK.due("no NONE: root", x.root(2), -1);
        CHECK.due("NONE: rootCost", x.rootCost(1), NONE);
        CHECK.due("no NONE: rootCost", x.rootCost(2), -1);
        CHECK.due("NONE: rootPort of a bridge that is down", x.rootPort(1), NONE);
        CHECK.due("NONE: rootPort of a bridge that is up", x.rootPort(0), NONE);
        CHECK.due("no NONE: rootPort", x.rootPort(2), -1);
        CHECK.due("NONE: stored", x.stored(0, 0), NONE);
        CHECK.due("no NONE: stored, what", x.stored(0, 5), -5);
        CHECK.due("no NONE: stored, port", x.stored(2, 0), -3);
        CHECK.due("NONE: entry", x.entry(1, 0), NONE);
        CHECK.due("no NONE: entry, station", x.entry(1, 1), -4);
        CHECK.due("no NONE: entry, bridge", x.entry(2, 0), -1);
    }

    /** "up to 8 bridges, 10 segments, 24 ports and 8 stations, each numbered from 0 in the order .. added" */
    private static void numbersInTheOrderOfAdding() {
        SpanningTreeProtocol x = new SpanningTreeProtocol();
        for (int number = 0; number < 24; number++) {
            CHECK.due("bridge " + number, x.addBridge(number % 16), number < 8 ? number : -6);
            CHECK.due("segment " + number, x.addSegment(), number < 10 ? number : -6);
            CHECK.due("port " + number, x.addPort(0, 0, 1), number);
            CHECK.due("station " + number, x.addStation(0), number < 8 ? number : -6);
        }
        CHECK.due("port 24", x.addPort(0, 0, 1), -6);
        int[] most = {8, 10, 24, 8};
        for (int what = 0; what < most.length; what++) {
            CHECK.due("count of a full network " + what, x.count(what), most[what]);
        }
    }

    /** Bridge 7, segment 9, port 23 and station 7 do all that others do. */
    private static void theLastOfEachIsAsGoodAsAny() {
        SpanningTreeProtocol x = Lan.of(Lan.priorities(9, 9, 9, 9, 9, 9, 9, 1), 10, new int[0][]);
        for (int port = 0; port < 22; port++) {
            x.addPort(0, 0, 1);
        }
        CHECK.due("port 22", x.addPort(6, 9, 10), 22);
        CHECK.due("port 23", x.addPort(7, 9, 10), 23);
        for (int station = 0; station < 8; station++) {
            CHECK.due("station " + station, x.addStation(9), station);
        }
        x.settle(40);
        CHECK.due("bridge 7 is the root of 6", x.root(6), 16 + 7);
        CHECK.due("port 23 is heard by 22", x.stored(22, 3), 23);
        CHECK.due("port 22 was heard by 23 and is lost", x.stored(23, 3), NONE);
        CHECK.due("bit 23", x.portsIn(4), 1 << 23 | 1 << 22 | 1);
        CHECK.due("station 7 sends on segment 9", x.send(7, -1), 1);
        CHECK.due("on segment 9", x.transmissions(9), 1);
        CHECK.due("bridge 7 learns station 7", x.entry(7, 7), 23);
        CHECK.due("bridge 6 learns station 7", x.entry(6, 7), 22);
        CHECK.due("bridge 0 hears nothing of it", x.entry(0, 7), NONE);
        x.setPort(23, false);
        CHECK.due("and forgets it", x.entry(7, 7), NONE);
        CHECK.due("bridge 6 does not", x.entry(6, 7), 22);
    }

    /** "A bridge has a priority from 0 to 15; its identifier is 16 * priority + its number." */
    private static void identifiersFromEndToEnd() {
        SpanningTreeProtocol x = new SpanningTreeProtocol();
        for (int bridge = 0; bridge < 8; bridge++) {
            x.addBridge(15);
            CHECK.due("the largest identifier of " + bridge, x.identifier(bridge), 240 + bridge);
        }
        x.addSegment();
        x.addPort(6, 0, 1);
        x.addPort(7, 0, 1);
        x.tick(1);
        CHECK.due("247 as a stored root", x.stored(0, 0), 247);
        CHECK.due("247 as a stored sender", x.stored(0, 2), 247);
        CHECK.due("246 is better than 247", x.root(7), 246);
        CHECK.due("246 as a stored sender", x.stored(1, 2), 246);
        for (int bridge = 0; bridge < 8; bridge++) {
            x.setPriority(bridge, 0);
            CHECK.due("the smallest identifier of " + bridge, x.identifier(bridge), bridge);
        }
        x.addPort(0, 0, 1);
        x.tick(1);
        CHECK.due("0 as a root", x.root(7), 0);
        CHECK.due("0 as a stored sender", x.stored(1, 2), 0);
        x.setPriority(0, 1);
        CHECK.due("number 0 with priority 1 comes after number 7 with priority 0", x.identifier(0), 16);
    }

    /** "A port .. has a cost from 1 to 100": over the longest way, six hops, 6 and 600. */
    private static void costsFromEndToEnd() {
        SpanningTreeProtocol cheap = Lan.row(7, 1);
        SpanningTreeProtocol dear = Lan.row(7, 100);
        cheap.tick(10);
        dear.tick(10);
        for (int bridge = 1; bridge <= 6; bridge++) {
            CHECK.due("cost by ones at " + bridge, cheap.rootCost(bridge), bridge);
            CHECK.due("cost by hundreds at " + bridge, dear.rootCost(bridge), 100 * bridge);
            CHECK.due("stored cost by hundreds at " + bridge, dear.stored(2 * bridge, 1), 100 * bridge - 100);
        }
        SpanningTreeProtocol x = Lan.pair();
        x.tick(1);
        CHECK.due("the cost of the port that hears counts, not the sender's", x.rootCost(1), 9);
    }

    /** "a bridge can have several ports on the same segment": as many as there are. */
    private static void severalPortsOnOneSegment() {
        SpanningTreeProtocol x = Lan.of(Lan.priorities(5), 1, new int[0][]);
        for (int port = 0; port < 24; port++) {
            x.addPort(0, 0, 1);
        }
        x.settle(40);
        CHECK.due("the first one is designated", x.role(0), DESIGNATED);
        for (int port = 1; port < 24; port++) {
            CHECK.due("port " + port + " is its backup", x.role(port), BACKUP);
        }
        CHECK.due("all others block", x.portsIn(BLOCKING), (1 << 24) - 2);
    }

    /** "Bridges and ports are up or down, initially up." */
    private static void initiallyUp() {
        SpanningTreeProtocol x = Lan.pair();
        CHECK.due("a new bridge is up", x.setBridge(1, false), 1);
        CHECK.due("then it is down", x.setBridge(1, false), 0);
        CHECK.due("a new port is up", x.setPort(0, false), 1);
        CHECK.due("then it is down", x.setPort(0, false), 0);
        CHECK.due("a port of a bridge that is down is still up itself", x.setPort(1, true), 1);
    }

    /** "A port is active if it and its bridge are up." */
    private static void activeIfBothAreUp() {
        for (int mixture = 0; mixture < 4; mixture++) {
            boolean bridgeUp = (mixture & 1) == 1;
            boolean portUp = (mixture & 2) == 2;
            boolean active = bridgeUp && portUp;
            SpanningTreeProtocol x = Lan.pair();
            x.setBridge(1, bridgeUp);
            x.setPort(1, portUp);
            CHECK.due("state with " + mixture, x.state(1), active ? BLOCKING : OFF);
            CHECK.due("role with " + mixture, x.role(1), active ? DESIGNATED : DISABLED);
            x.tick(1);
            CHECK.due("heard with " + mixture, x.stored(0, 3), active ? 1 : NONE);
            CHECK.due("hears with " + mixture, x.stored(1, 3), active ? 0 : NONE);
            x.setPort(1, true);
            x.setBridge(1, true);
            CHECK.due("state after " + mixture, x.state(1), active ? 2 : BLOCKING);
        }
    }

    /**
     * Bridge 0 is the root on segment 0; bridges 1 and 2 (ports 0 to 3, in some order) join it
     * to segment 1, where bridge 3 listens at port 5. Ports 2 and 3 are those on segment 1.
     */
    private static SpanningTreeProtocol rivals(int priority1, int cost1, int priority2, int cost2) {
        SpanningTreeProtocol x = Lan.of(Lan.priorities(0, priority1, priority2, 15), 2,
                new int[][] {{1, 0, cost1}, {2, 0, cost2}, {2, 1, 1}, {1, 1, 1}, {0, 0, 1}, {3, 1, 1}});
        x.tick(3);
        return x;
    }

    /**
     * "Messages are compared by these numbers in this order; the first difference decides": the
     * root. Bridge 2 sends itself as root at no cost, bridge 1 sends bridge 0 at the cost 100.
     */
    private static void theRootDecidesFirst() {
        SpanningTreeProtocol x = Lan.of(Lan.priorities(0, 9, 1, 15), 2,
                new int[][] {{0, 0, 1}, {1, 0, 100}, {2, 1, 1}, {1, 1, 1}, {3, 1, 1}});
        x.tick(1);
        CHECK.due("bridge 2 is the best that bridge 3 has heard of", x.stored(4, 0), 18);
        CHECK.due("bridge 1 knows a better root", x.role(3), DESIGNATED);
        x.tick(1);
        CHECK.due("the better root comes with a worse cost", x.stored(4, 1), 100);
        CHECK.due("and a worse sender", x.stored(4, 2), 16 * 9 + 1);
        CHECK.due("and a larger port", x.stored(4, 3), 3);
        CHECK.due("bridge 2 gives in", x.role(2), ROOT);
        CHECK.due("at this cost", x.rootCost(2), 101);
    }

    /** ".. the first difference decides": equal roots, so the cost. */
    private static void theCostDecidesNext() {
        SpanningTreeProtocol x = rivals(1, 3, 9, 2);
        CHECK.due("the worse bridge with the better cost is designated", x.role(2), DESIGNATED);
        CHECK.due("the better bridge is not", x.role(3), ALTERNATE);
        CHECK.due("bridge 3 hears", x.stored(5, 3), 2);
        CHECK.due("the cost", x.stored(5, 1), 2);
    }

    /** ".. the first difference decides": equal roots and costs, so the sending bridge. */
    private static void theSenderDecidesNext() {
        SpanningTreeProtocol x = rivals(1, 2, 9, 2);
        CHECK.due("the better bridge with the larger port is designated", x.role(3), DESIGNATED);
        CHECK.due("the worse bridge with the smaller port is not", x.role(2), ALTERNATE);
        CHECK.due("bridge 3 hears", x.stored(5, 3), 3);
    }

    /** ".. the first difference decides .. the smaller message is the better one": last, the sending port. */
    private static void theSendingPortDecidesLast() {
        SpanningTreeProtocol x = Lan.of(Lan.priorities(0, 1), 1,
                new int[][] {{1, 0, 1}, {0, 0, 100}, {0, 0, 1}});
        x.tick(3);
        CHECK.due("the smaller port is designated, whatever its cost", x.role(1), DESIGNATED);
        CHECK.due("the larger one is its backup", x.role(2), BACKUP);
        CHECK.due("bridge 1 hears the smaller one", x.stored(0, 3), 1);
    }

    /** "with a remaining lifetime from 1 to 6 ticks" */
    private static void lifetimesFrom6To1() {
        SpanningTreeProtocol x = Lan.row(8, 1);
        x.tick(30);
        for (int bridge = 1; bridge <= 6; bridge++) {
            CHECK.due("lifetime after " + bridge + " hops", x.stored(2 * bridge, 4), 7 - bridge);
        }
        x.setPort(1, false);
        int[] due = {5, 4, 3, 2, 1, NONE, NONE};
        for (int left : due) {
            x.tick(1);
            CHECK.due("lifetime without news", x.stored(2, 4), left);
        }
        for (int port = 0; port < 16; port++) {
            int left = x.stored(port, 4);
            CHECK.holds("port " + port + " has 1 to 6 ticks or nothing: " + left, left == NONE || left >= 1 && left <= 6);
        }
    }

    /** "A port stores at most one message": of three that are sent, the best one alone. */
    private static void atMostOneMessage() {
        SpanningTreeProtocol x = Lan.of(Lan.priorities(9, 3, 1, 2), 1,
                new int[][] {{0, 0, 1}, {1, 0, 1}, {2, 0, 1}, {3, 0, 1}});
        x.tick(1);
        CHECK.due("the best of three", x.stored(0, 2), 18);
        x.setBridge(2, false);
        x.tick(5);
        CHECK.due("its last tick", x.stored(0, 4), 1);
        x.tick(1);
        CHECK.due("the second best was not kept beside it", x.stored(0, 2), NONE);
    }

    /** "A port that becomes active or inactive loses its stored message": inactive, in both ways. */
    private static void aPortThatBecomesInactiveLosesItsMessage() {
        SpanningTreeProtocol x = Lan.pair();
        x.tick(1);
        x.setPort(1, false);
        CHECK.due("lost with the port", x.stored(1, 0), NONE);
        CHECK.due("not by the other port", x.stored(0, 0), 17);
        SpanningTreeProtocol y = Lan.pair();
        y.tick(1);
        y.setBridge(1, false);
        CHECK.due("lost with the bridge", y.stored(1, 0), NONE);
        CHECK.due("not by the other bridge's port", y.stored(0, 0), 17);
        SpanningTreeProtocol z = Lan.pair();
        z.tick(1);
        z.setPort(1, true);
        z.setBridge(1, true);
        CHECK.due("not lost where nothing changes", z.stored(1, 0), 0);
    }

    /** ".. becomes active .. loses its stored message": it hears of nothing before the next tick. */
    private static void aPortThatBecomesActiveHasNone() {
        SpanningTreeProtocol x = Lan.pair();
        x.tick(1);
        x.setPort(1, false);
        x.tick(3);
        x.setPort(1, true);
        CHECK.due("nothing stored when active again", x.stored(1, 0), NONE);
        CHECK.due("its bridge is its own root", x.root(1), 17);
        x.tick(1);
        CHECK.due("something after a tick", x.stored(1, 0), 0);
        x.setPort(1, false);
        x.setBridge(1, false);
        x.setBridge(1, true);
        CHECK.due("not active by the bridge alone", x.state(1), OFF);
        CHECK.due("nothing stored", x.stored(1, 0), NONE);
    }
}
