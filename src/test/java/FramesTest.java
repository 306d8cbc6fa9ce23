/** Promises 23 to 25: frames, transmissions and table entries. */
public final class FramesTest {
    private static final Check CHECK = new Check();

    public static void main(String[] args) {
        promise23Errors();
        promise23FloodAndTarget();
        promise23LearningPorts();
        promise23EntryWhosePortDoesNotForward();
        promise23AtMost64();
        promise24Transmissions();
        promise25Entry();
        promise25Lifetime();
        CHECK.end();
    }

    /** One bridge with a port on each of some segments, and a station on each. */
    private static SpanningTreeProtocol star(int segments) {
        SpanningTreeProtocol x = new SpanningTreeProtocol();
        x.addBridge(1);
        for (int segment = 0; segment < segments; segment++) {
            x.addSegment();
            x.addPort(0, segment, 1);
            x.addStation(segment);
        }
        return x;
    }

    private static void promise23Errors() {
        SpanningTreeProtocol x = star(2);
        x.settle(20);
        x.send(0, 1);
        CHECK.due("p23 from -1", x.send(-1, 0), SpanningTreeProtocol.NO_SUCH_STATION);
        CHECK.due("p23 from 2", x.send(2, 0), SpanningTreeProtocol.NO_SUCH_STATION);
        CHECK.due("p23 to 2", x.send(0, 2), SpanningTreeProtocol.NO_SUCH_STATION);
        CHECK.due("p23 to -2", x.send(0, -2), SpanningTreeProtocol.NO_SUCH_STATION);
        CHECK.due("p23 to MIN", x.send(0, Integer.MIN_VALUE), SpanningTreeProtocol.NO_SUCH_STATION);
        CHECK.due("p23 to MAX", x.send(0, Integer.MAX_VALUE), SpanningTreeProtocol.NO_SUCH_STATION);
        CHECK.due("p24 errors keep the last frame", x.transmissions(1), 1);
        CHECK.due("p23 to itself", x.send(0, 0), 1);
        CHECK.due("p24 to itself", x.transmissions(1), 0);
    }

    private static void promise23FloodAndTarget() {
        SpanningTreeProtocol x = star(4);
        CHECK.due("p23 nobody forwards", x.send(0, -1), 1);
        x.settle(20);
        CHECK.due("p23 to all", x.send(0, -1), 4);
        CHECK.due("p23 to an unknown one", x.send(0, 3), 4);
        CHECK.due("p23 to a known one", x.send(3, 0), 2);
        CHECK.due("p24 on its segment", x.transmissions(0), 1);
        CHECK.due("p24 on the sender's", x.transmissions(3), 1);
        CHECK.due("p24 on another", x.transmissions(1), 0);
        CHECK.due("p23 to all, though known", x.send(3, -1), 4);
        x.moveStation(0, 3);
        CHECK.due("p23 where it was", x.send(3, 0), 2);
        CHECK.due("p24 where it was", x.transmissions(0), 1);
        CHECK.due("p23 it speaks", x.send(0, 3), 1);
        CHECK.due("p25 it is learned anew", x.entry(0, 0), 3);
        CHECK.due("p23 both on one segment", x.send(3, 0), 1);
        x.setPort(2, false);
        CHECK.due("p23 an inactive port is left out", x.send(1, -1), 3);
        CHECK.due("p24 an inactive port is left out", x.transmissions(2), 0);
    }

    private static void promise23LearningPorts() {
        SpanningTreeProtocol x = star(2);
        x.tick(2);
        CHECK.due("p23 listening", x.send(0, 1), 1);
        CHECK.due("p25 listening ports do not learn", x.entry(0, 0), SpanningTreeProtocol.NONE);
        x.tick(1);
        CHECK.due("p23 learning", x.send(0, 1), 1);
        CHECK.due("p25 learning ports learn", x.entry(0, 0), 0);
    }

    private static void promise23EntryWhosePortDoesNotForward() {
        SpanningTreeProtocol x = star(3);
        x.settle(20);
        x.send(2, -1);
        CHECK.due("p23 known", x.send(0, 2), 2);
        // A better bridge with two ports turns port 2 into an alternate port, which keeps its entry.
        x.addBridge(0);
        x.addPort(1, 1, 1);
        x.addPort(1, 2, 1);
        x.tick(1);
        CHECK.due("p23 port 2 blocks", x.state(2), SpanningTreeProtocol.BLOCKING);
        CHECK.due("p25 its entry stays", x.entry(0, 2), 2);
        CHECK.due("p23 so the frame goes to all that forward", x.send(0, 2), 2);
        CHECK.due("p24 it goes to segment 1", x.transmissions(1), 1);
        CHECK.due("p24 it does not go to segment 2", x.transmissions(2), 0);
    }

    /** Frames run round in the loops until 64 transmissions are made; all 64 of them are handled. */
    private static void promise23AtMost64() {
        SpanningTreeProtocol x = Loops.behindARow();
        x.settle(100);
        CHECK.due("p23 to all in loops", x.send(0, -1), 64);
        int sum = 0;
        for (int segment = 0; segment < 10; segment++) {
            sum += x.transmissions(segment);
        }
        CHECK.due("p24 the sum is the answer", sum, 64);
        SpanningTreeProtocol y = Loops.behindARow();
        y.settle(100);
        int[] down = {11, 14, 15, 18, 19};
        for (int port : down) {
            y.setPort(port, false);
        }
        // Bridges 6 and 7 join segments 6 and 7: one copy on 6, then two on 7, two on 6, and so on.
        CHECK.due("p23 one loop", y.send(0, -1), 64);
        CHECK.due("p24 on the sender's segment", y.transmissions(6), 32);
        CHECK.due("p24 on the other segment", y.transmissions(7), 32);
        CHECK.due("p25 the 62nd is the last that bridge 7 hears", y.entry(7, 0), 17);
        CHECK.due("p25 the 64th is the last that bridge 6 hears", y.entry(6, 0), 12);
        CHECK.due("p23 a short frame after a long one", y.send(0, 0), 1);
        CHECK.due("p25 nothing is left of the long one", y.entry(7, 0), 16);
    }

    private static void promise24Transmissions() {
        SpanningTreeProtocol x = new SpanningTreeProtocol();
        CHECK.due("p24 none", x.transmissions(0), SpanningTreeProtocol.NO_SUCH_SEGMENT);
        x.addSegment();
        CHECK.due("p24 no frame yet", x.transmissions(0), 0);
        CHECK.due("p24 -1", x.transmissions(-1), SpanningTreeProtocol.NO_SUCH_SEGMENT);
        CHECK.due("p24 1", x.transmissions(1), SpanningTreeProtocol.NO_SUCH_SEGMENT);
        CHECK.due("p24 MAX", x.transmissions(Integer.MAX_VALUE), SpanningTreeProtocol.NO_SUCH_SEGMENT);
        x.addStation(0);
        CHECK.due("p23 an empty segment", x.send(0, -1), 1);
        CHECK.due("p24 an empty segment", x.transmissions(0), 1);
        x.addSegment();
        CHECK.due("p24 a segment that came later", x.transmissions(1), 0);
        x.tick(20);
        CHECK.due("p24 ticks change nothing", x.transmissions(0), 1);
    }

    private static void promise25Entry() {
        SpanningTreeProtocol x = new SpanningTreeProtocol();
        CHECK.due("p25 bridge first", x.entry(0, 0), SpanningTreeProtocol.NO_SUCH_BRIDGE);
        x.addBridge(0);
        CHECK.due("p25 station second", x.entry(0, 0), SpanningTreeProtocol.NO_SUCH_STATION);
        x = star(2);
        CHECK.due("p25 bridge -1", x.entry(-1, 0), SpanningTreeProtocol.NO_SUCH_BRIDGE);
        CHECK.due("p25 bridge 1", x.entry(1, 9), SpanningTreeProtocol.NO_SUCH_BRIDGE);
        CHECK.due("p25 station -1", x.entry(0, -1), SpanningTreeProtocol.NO_SUCH_STATION);
        CHECK.due("p25 station 2", x.entry(0, 2), SpanningTreeProtocol.NO_SUCH_STATION);
        CHECK.due("p25 no entry", x.entry(0, 1), SpanningTreeProtocol.NONE);
    }

    private static void promise25Lifetime() {
        SpanningTreeProtocol x = star(2);
        x.settle(20);
        x.send(1, 0);
        x.tick(9);
        CHECK.due("p25 in its last tick", x.entry(0, 1), 1);
        x.tick(1);
        CHECK.due("p25 lost", x.entry(0, 1), SpanningTreeProtocol.NONE);
        x.send(1, 0);
        x.tick(9);
        x.send(1, 0);
        x.tick(9);
        CHECK.due("p25 lifetime anew", x.entry(0, 1), 1);
        x.send(0, 1);
        CHECK.due("p25 being spoken to", x.entry(0, 1), 1);
        x.tick(1);
        CHECK.due("p25 does not renew it", x.entry(0, 1), SpanningTreeProtocol.NONE);
        CHECK.due("p25 the speaker's is there", x.entry(0, 0), 0);
    }
}
