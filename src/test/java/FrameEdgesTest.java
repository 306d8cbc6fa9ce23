/**
 * The sentences of the document's Description under TABLES and FRAMES that bound something:
 * a method for each, which begins with the sentence.
 */
public final class FrameEdgesTest {
    private static final Check CHECK = new Check();
    private static final int NONE = -9;
    private static final int BLOCKING = 1, LISTENING = 2, LEARNING = 3, FORWARDING = 4;

    public static void main(String[] args) {
        atMostOneEntryForEachStation();
        aLifetimeFrom10To1();
        entriesOfAPortThatBecomesInactive();
        entriesOfABridgeThatGoesDown();
        entriesOfAPortThatIsBlocked();
        entriesOfAPortWhoseRoleChanges();
        onTheSegmentOfTheSenderFirst();
        exceptTheOneThatTransmittedIt();
        otherPortsOfTheBridgeThatTransmittedIt();
        activePortsAlone();
        learningAndForwardingPortsLearn();
        forwardingPortsAloneTransmit();
        anEntryWhosePortForwards();
        anEntryWhosePortDoesNotForward();
        notAtAllByTheSamePort();
        forAllByAllOtherPorts();
        alsoOntoTheSegmentItCameFrom();
        inTheOrderInWhichTheyAreMade();
        atMost64();
        aTreeNeedsFewer();
        CHECK.end();
    }

    private static SpanningTreeProtocol settledStar(int segments) {
        SpanningTreeProtocol x = Lan.star(segments);
        x.tick(5);
        return x;
    }

    private static void transmissions(String what, SpanningTreeProtocol x, int... due) {
        for (int segment = 0; segment < due.length; segment++) {
            CHECK.due(what + ": on segment " + segment, x.transmissions(segment), due[segment]);
        }
    }

    /** "Each bridge has a table with at most one entry for each station" */
    private static void atMostOneEntryForEachStation() {
        SpanningTreeProtocol x = settledStar(3);
        x.send(0, -1);
        x.send(1, -1);
        CHECK.due("station 0 is on port 0", x.entry(0, 0), 0);
        x.moveStation(0, 2);
        x.send(0, -1);
        CHECK.due("then on port 2", x.entry(0, 0), 2);
        CHECK.due("station 1 has an entry of its own", x.entry(0, 1), 1);
        x.setPort(2, false);
        CHECK.due("the former entry is gone for good", x.entry(0, 0), NONE);
        SpanningTreeProtocol y = Lan.full();
        y.settle(200);
        for (int station = 0; station < 8; station++) {
            y.moveStation(station, 0);
            y.send(station, -1);
        }
        int entries = 0;
        for (int station = 0; station < 8; station++) {
            entries += y.entry(0, station) == y.entry(0, 0) && y.entry(0, 0) != NONE ? 1 : 0;
        }
        CHECK.due("one for each of eight", entries, 8);
    }

    /** "with a remaining lifetime from 1 to 10 ticks" */
    private static void aLifetimeFrom10To1() {
        SpanningTreeProtocol x = settledStar(2);
        x.send(0, -1);
        x.tick(9);
        CHECK.due("1 is left", x.entry(0, 0), 0);
        x.send(0, 1);
        x.tick(9);
        CHECK.due("10 anew by the same port, 1 is left", x.entry(0, 0), 0);
        x.moveStation(0, 1);
        x.send(0, 1);
        x.tick(9);
        CHECK.due("10 anew by another port, 1 is left", x.entry(0, 0), 1);
        x.send(1, 0);
        x.tick(1);
        CHECK.due("to be spoken to does not count", x.entry(0, 0), NONE);
        CHECK.due("but who spoke is known", x.entry(0, 1), 1);
    }

    /** "All entries with a port are lost when this port becomes inactive." */
    private static void entriesOfAPortThatBecomesInactive() {
        SpanningTreeProtocol x = settledStar(3);
        x.moveStation(2, 1);
        for (int station = 0; station < 3; station++) {
            x.send(station, -1);
        }
        x.setPort(1, true);
        CHECK.due("not by up again", x.entry(0, 1), 1);
        x.setPort(1, false);
        CHECK.due("station 1 at port 1", x.entry(0, 1), NONE);
        CHECK.due("station 2 at port 1", x.entry(0, 2), NONE);
        CHECK.due("station 0 at port 0 stays", x.entry(0, 0), 0);
        x.setPort(1, true);
        CHECK.due("nothing comes back", x.entry(0, 1), NONE);
        x.setPort(0, false);
        CHECK.due("nor is port 0 another than any", x.entry(0, 0), NONE);
    }

    /** ".. when this port becomes inactive": all ports of a bridge that goes down. */
    private static void entriesOfABridgeThatGoesDown() {
        SpanningTreeProtocol x = Lan.row(2, 1);
        x.addStation(0);
        x.addStation(2);
        x.settle(40);
        x.send(0, 1);
        x.send(1, 0);
        CHECK.due("bridge 0, station 0", x.entry(0, 0), 0);
        CHECK.due("bridge 0, station 1", x.entry(0, 1), 1);
        CHECK.due("bridge 1, station 0", x.entry(1, 0), 2);
        CHECK.due("bridge 1, station 1", x.entry(1, 1), 3);
        x.setBridge(0, true);
        CHECK.due("not by up again", x.entry(0, 0), 0);
        x.setPort(3, false);
        CHECK.due("port 3 alone", x.entry(1, 1), NONE);
        x.setBridge(0, false);
        CHECK.due("down: station 0", x.entry(0, 0), NONE);
        CHECK.due("down: station 1", x.entry(0, 1), NONE);
        CHECK.due("another bridge's entry stays", x.entry(1, 0), 2);
        x.setBridge(0, true);
        CHECK.due("nothing comes back", x.entry(0, 0), NONE);
    }

    /** ".. when this port becomes inactive": a port that is blocked is active, so its entries stay. */
    private static void entriesOfAPortThatIsBlocked() {
        SpanningTreeProtocol x = settledStar(2);
        x.send(1, -1);
        x.addBridge(0);
        x.addPort(1, 1, 1);
        x.addPort(1, 0, 1);
        x.setCost(1, 9);
        x.tick(1);
        CHECK.due("port 1 is blocked", x.state(1), BLOCKING);
        CHECK.due("its entry stays", x.entry(0, 1), 1);
        x.tick(8);
        CHECK.due("for its lifetime", x.entry(0, 1), 1);
        x.tick(1);
        CHECK.due("and no longer", x.entry(0, 1), NONE);
    }

    /** ".. when this port becomes inactive": a port that only changes its role keeps its entries. */
    private static void entriesOfAPortWhoseRoleChanges() {
        SpanningTreeProtocol x = Lan.twoRoots(6);
        x.addStation(5);
        x.addStation(6);
        x.tick(5);
        x.send(0, -1);
        x.send(1, -1);
        CHECK.due("port 12 is the root port", x.rootPort(6), 12);
        x.tick(1);
        CHECK.due("port 11 is the root port", x.rootPort(6), 11);
        CHECK.due("the entry with the new root port", x.entry(6, 0), 11);
        CHECK.due("the entry with the former root port", x.entry(6, 1), 12);
        x.tick(8);
        CHECK.due("for its lifetime", x.entry(6, 1), 12);
        x.tick(1);
        CHECK.due("and no longer", x.entry(6, 1), NONE);
    }

    /** "It is transmitted on the segment of the sender first." */
    private static void onTheSegmentOfTheSenderFirst() {
        SpanningTreeProtocol x = Lan.of(Lan.priorities(), 2, new int[0][]);
        x.addStation(1);
        CHECK.due("a segment without ports", x.send(0, -1), 1);
        transmissions("a segment without ports", x, 0, 1);
        SpanningTreeProtocol y = Lan.star(2);
        CHECK.due("a segment whose ports do not forward", y.send(1, 0), 1);
        transmissions("a segment whose ports do not forward", y, 0, 1);
        y.tick(5);
        y.moveStation(1, 0);
        CHECK.due("from where the station is now", y.send(1, -1), 2);
        CHECK.due("it is learned there", y.entry(0, 1), 0);
    }

    /** "all active ports on this segment except the one that transmitted it" */
    private static void exceptTheOneThatTransmittedIt() {
        SpanningTreeProtocol x = settledStar(2);
        CHECK.due("port 1 does not hear itself", x.send(0, -1), 2);
        CHECK.due("nor learn from itself", x.entry(0, 0), 0);
        SpanningTreeProtocol y = Lan.row(3, 1);
        y.addStation(0);
        y.settle(40);
        CHECK.due("through three bridges", y.send(0, -1), 4);
        transmissions("through three bridges", y, 1, 1, 1, 1);
        for (int bridge = 0; bridge < 3; bridge++) {
            CHECK.due("learned by bridge " + bridge, y.entry(bridge, 0), 2 * bridge);
        }
    }

    /**
     * Bridges 0 to 6 in a row. Bridge 6 hears of bridge 0 at port 12 but may not tell; so its
     * ports 13 and 14, both on segment 7, do not hear one another, and both forward. Stations 0
     * and 1 are on segment 7 too.
     */
    private static SpanningTreeProtocol twoForwardingPortsOnOneSegment() {
        SpanningTreeProtocol x = Lan.row(6, 1);
        x.addBridge(6);
        x.addPort(6, 6, 1);
        x.addSegment();
        x.addPort(6, 7, 1);
        x.addPort(6, 7, 1);
        x.addStation(7);
        x.addStation(7);
        x.settle(100);
        return x;
    }

    /** ".. except the one that transmitted it": another port of the same bridge is visited. */
    private static void otherPortsOfTheBridgeThatTransmittedIt() {
        SpanningTreeProtocol x = twoForwardingPortsOnOneSegment();
        CHECK.due("port 13 forwards", x.state(13), FORWARDING);
        CHECK.due("port 14 forwards", x.state(14), FORWARDING);
        CHECK.due("to the sender itself", x.send(1, 1), 1);
        CHECK.due("port 14 was visited last", x.entry(6, 1), 14);
        // Port 13 hands each transmission to port 14, whose next one it hears again.
        CHECK.due("round and round", x.send(0, 1), 64);
        CHECK.due("all on segment 7", x.transmissions(7), 64);
        CHECK.due("port 13 heard the last one", x.entry(6, 0), 13);
    }

    /** "all active ports": one that is down neither learns nor transmits. */
    private static void activePortsAlone() {
        SpanningTreeProtocol x = settledStar(3);
        x.setPort(0, false);
        CHECK.due("the sender's port is down", x.send(0, -1), 1);
        CHECK.due("it does not learn", x.entry(0, 0), NONE);
        CHECK.due("another port is down", x.send(1, -1), 2);
        transmissions("another port is down", x, 0, 1, 1);
        x.setBridge(0, false);
        CHECK.due("the bridge is down", x.send(1, -1), 1);
        CHECK.due("it does not learn either", x.entry(0, 1), NONE);
    }

    /** "If its state is LEARNING or FORWARDING, its bridge replaces its table entry for the sender" */
    private static void learningAndForwardingPortsLearn() {
        int[] states = {BLOCKING, LISTENING, LISTENING, LEARNING, LEARNING, FORWARDING};
        for (int ticks = 0; ticks < states.length; ticks++) {
            SpanningTreeProtocol x = Lan.star(2);
            if (ticks > 0) {
                x.tick(ticks);
            }
            CHECK.due("state after " + ticks, x.state(0), states[ticks]);
            x.send(0, -1);
            CHECK.due("learned in " + states[ticks], x.entry(0, 0), states[ticks] >= LEARNING ? 0 : NONE);
        }
    }

    /** "Then, if its state is FORWARDING": not while it is LEARNING, and not by a port that is. */
    private static void forwardingPortsAloneTransmit() {
        SpanningTreeProtocol x = settledStar(2);
        x.addSegment();
        x.addPort(0, 2, 1);
        x.addStation(2);
        int[] states = {BLOCKING, LISTENING, LISTENING, LEARNING, LEARNING, FORWARDING};
        for (int state : states) {
            boolean forwards = state == FORWARDING;
            CHECK.due("the state", x.state(2), state);
            CHECK.due("out of a port in " + state, x.send(0, -1), forwards ? 3 : 2);
            CHECK.due("on its segment in " + state, x.transmissions(2), forwards ? 1 : 0);
            CHECK.due("into a port in " + state, x.send(2, -1), forwards ? 3 : 1);
            CHECK.due("on its own segment in " + state, x.transmissions(2), 1);
            x.tick(1);
        }
    }

    /** "an entry for the addressee whose port has the state FORWARDING, the frame is transmitted by that port" */
    private static void anEntryWhosePortForwards() {
        SpanningTreeProtocol x = settledStar(4);
        CHECK.due("nobody knows station 3", x.send(0, 3), 4);
        x.send(3, -1);
        CHECK.due("station 3 is known", x.send(0, 3), 2);
        transmissions("station 3 is known", x, 1, 0, 0, 1);
        x.moveStation(3, 1);
        CHECK.due("where it is known to be, not where it is", x.send(0, 3), 2);
        transmissions("where it is known to be", x, 1, 0, 0, 1);
        x.tick(10);
        CHECK.due("forgotten", x.send(0, 3), 4);
        SpanningTreeProtocol y = Lan.row(2, 1);
        y.addStation(0);
        y.addStation(2);
        y.settle(40);
        y.send(1, -1);
        y.setPort(3, false);
        CHECK.due("bridge 0 knows, bridge 1 has forgotten and has no other port", y.send(0, 1), 2);
    }

    /** "otherwise .. it is transmitted by all other ports": an entry whose port learns, or blocks. */
    private static void anEntryWhosePortDoesNotForward() {
        SpanningTreeProtocol x = settledStar(2);
        x.addSegment();
        x.addPort(0, 2, 1);
        x.addStation(2);
        x.tick(3);
        x.send(2, -1);
        CHECK.due("learned by a port that learns", x.entry(0, 2), 2);
        CHECK.due("not by that port, but by all others", x.send(0, 2), 2);
        transmissions("not by that port", x, 1, 1, 0);
        x.tick(2);
        CHECK.due("by that port alone, now that it forwards", x.send(0, 2), 2);
        transmissions("by that port alone", x, 1, 0, 1);
        // A better bridge between segments 1 and 2 blocks port 2, whose entry stays.
        x.addBridge(0);
        x.addPort(1, 1, 1);
        x.addPort(1, 2, 1);
        x.tick(1);
        CHECK.due("port 2 is blocked", x.state(2), BLOCKING);
        CHECK.due("its entry stays", x.entry(0, 2), 2);
        CHECK.due("not by a port that blocks", x.send(0, 2), 2);
        transmissions("not by a port that blocks", x, 1, 1, 0);
    }

    /** "but not at all if it is the same port" */
    private static void notAtAllByTheSamePort() {
        SpanningTreeProtocol x = settledStar(3);
        x.moveStation(1, 0);
        CHECK.due("station 1 is not known", x.send(0, 1), 3);
        x.send(1, -1);
        CHECK.due("station 1 is on the same segment", x.send(0, 1), 1);
        transmissions("the same segment", x, 1, 0, 0);
        CHECK.due("the sender is known all the same", x.entry(0, 0), 0);
        CHECK.due("to the sender itself, just learned there", x.send(2, 2), 1);
        CHECK.due("and so it is known", x.entry(0, 2), 2);
        SpanningTreeProtocol y = Lan.star(3);
        CHECK.due("to the sender itself where nothing forwards", y.send(2, 2), 1);
    }

    /** "(also if the frame is for all) .. by all other ports of the bridge that have the state FORWARDING" */
    private static void forAllByAllOtherPorts() {
        SpanningTreeProtocol x = settledStar(4);
        for (int station = 0; station < 4; station++) {
            CHECK.due("to all from " + station, x.send(station, -1), 4);
            transmissions("to all from " + station, x, 1, 1, 1, 1);
        }
        x.setPort(2, false);
        CHECK.due("without port 2", x.send(0, -1), 3);
        transmissions("without port 2", x, 1, 1, 0, 1);
    }

    /** ".. by all other ports of the bridge that have the state FORWARDING": on whatever segment they are. */
    private static void alsoOntoTheSegmentItCameFrom() {
        SpanningTreeProtocol x = twoForwardingPortsOnOneSegment();
        x.setPort(12, false);
        // Of its three ports bridge 6 has 13 and 14 left, each of which passes on to the other.
        CHECK.due("out of one and into the other", x.send(0, -1), 64);
        CHECK.due("all on segment 7", x.transmissions(7), 64);
        CHECK.due("the 64th is by port 14", x.entry(6, 0), 13);
        x.tick(1);
        CHECK.due("as its own root it tells, and port 14 is blocked", x.state(14), BLOCKING);
        CHECK.due("no other port forwards", x.send(0, -1), 1);
    }

    /**
     * "Transmissions are handled in the order in which they are made .. in ascending order": two
     * bridges join three segments, and the frame doubles from round to round. The rounds have
     * 1, 4, 8, 16 and 32 transmissions, on segments 6, 7 and 8: 1, 0, 0; 0, 2, 2; 4, 2, 2;
     * 4, 6, 6; 12, 10, 10. Three of the sixth round are made, all by bridge 6: on 7 and 8, which
     * its port 12 makes of the first of the fifth (on 6), and on 6, by port 12 for the second (on 8).
     */
    private static void inTheOrderInWhichTheyAreMade() {
        SpanningTreeProtocol x = Loops.behindARow();
        x.settle(100);
        int[] down = {11, 15, 19};
        for (int port : down) {
            x.setPort(port, false);
        }
        CHECK.due("three loops", x.send(0, -1), 64);
        CHECK.due("on segment 6", x.transmissions(6), 1 + 0 + 4 + 4 + 12 + 1);
        CHECK.due("on segment 7", x.transmissions(7), 0 + 2 + 2 + 6 + 10 + 1);
        CHECK.due("on segment 8", x.transmissions(8), 0 + 2 + 2 + 6 + 10 + 1);
        CHECK.due("on segment 9", x.transmissions(9), 0);
        CHECK.due("bridge 7 hears the last one, on segment 6", x.entry(7, 0), 16);
        CHECK.due("bridge 6 hears the 16th of the fifth round last, on segment 7", x.entry(6, 0), 13);
    }

    /** "At most 64 transmissions are made for a frame; further ones are not made." */
    private static void atMost64() {
        SpanningTreeProtocol x = Loops.behindARow();
        x.settle(100);
        for (int station = 0; station < 4; station++) {
            CHECK.due("to all in loops", x.send(station, -1), 64);
            int sum = 0;
            for (int segment = 0; segment < 10; segment++) {
                sum += x.transmissions(segment);
            }
            CHECK.due("64 in all", sum, 64);
        }
        SpanningTreeProtocol y = Loops.behindARow();
        y.settle(100);
        int[] down = {11, 14, 15, 18, 19};
        for (int port : down) {
            y.setPort(port, false);
        }
        // One on segment 6, two on 7, two on 6, and so on: the 64th is the first of its two.
        CHECK.due("one loop", y.send(0, -1), 64);
        CHECK.due("one loop: on segment 6", y.transmissions(6), 1 + 2 * 15 + 1);
        CHECK.due("one loop: on segment 7", y.transmissions(7), 2 * 16);
        CHECK.due("bridge 7 hears the 62nd last", y.entry(7, 0), 17);
        CHECK.due("the next frame begins with none", y.send(0, 0), 1);
        CHECK.due("and leads nowhere else", y.entry(7, 0), 16);
        CHECK.due("not for bridge 6 either", y.entry(6, 0), 12);
    }

    /** The frame that needs most without a loop: once on each of ten segments. */
    private static void aTreeNeedsFewer() {
        SpanningTreeProtocol x = settledStar(10);
        CHECK.due("ten segments", x.send(7, -1), 10);
        transmissions("ten segments", x, 1, 1, 1, 1, 1, 1, 1, 1, 1, 1);
    }
}
