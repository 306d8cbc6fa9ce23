/** Promises 11 to 19: ticks, settling, roots, roles, states and stored messages. */
public final class ProtocolTest {
    private static final Check CHECK = new Check();
    private static final int MIN = Integer.MIN_VALUE, MAX = Integer.MAX_VALUE;

    public static void main(String[] args) {
        promise11Tick();
        promise11AgesAlongAChain();
        promise11TakesWorseNewsFromTheSameSource();
        promise11KeepsABetterStoredMessage();
        promise11LifetimeRunsOut();
        promise11BestOfTheOthers();
        promise11TooOldToBeSent();
        promise12Settle();
        promise13Identifier();
        promise14To16Root();
        promise16TiesOfOffers();
        promise17Role();
        promise18State();
        promise18BackToBlocking();
        promise19Stored();
        CHECK.end();
    }

    /** Bridges in a row: bridge b has ports 2b (towards b - 1) and 2b + 1 (towards b + 1). */
    private static SpanningTreeProtocol row(int bridges, int cost) {
        SpanningTreeProtocol x = new SpanningTreeProtocol();
        x.addSegment();
        for (int bridge = 0; bridge < bridges; bridge++) {
            x.addBridge(bridge);
            x.addSegment();
            x.addPort(bridge, bridge, cost);
            x.addPort(bridge, bridge + 1, cost);
        }
        return x;
    }

    private static void promise11Tick() {
        SpanningTreeProtocol x = row(2, 3);
        CHECK.due("p11 0", x.tick(0), SpanningTreeProtocol.OUT_OF_RANGE);
        CHECK.due("p11 -1", x.tick(-1), SpanningTreeProtocol.OUT_OF_RANGE);
        CHECK.due("p11 51", x.tick(51), SpanningTreeProtocol.OUT_OF_RANGE);
        CHECK.due("p11 MIN", x.tick(MIN), SpanningTreeProtocol.OUT_OF_RANGE);
        CHECK.due("p11 MAX", x.tick(MAX), SpanningTreeProtocol.OUT_OF_RANGE);
        CHECK.due("p11 errors take no time", x.count(4), 0);
        CHECK.due("p11 1", x.tick(1), 1);
        CHECK.due("p11 50", x.tick(50), 51);
        CHECK.due("p11 time", x.count(4), 51);
    }

    private static void promise11AgesAlongAChain() {
        SpanningTreeProtocol x = row(8, 7);
        x.tick(20);
        for (int bridge = 1; bridge <= 6; bridge++) {
            CHECK.due("p11 lifetime at " + bridge, x.stored(2 * bridge, 4), 7 - bridge);
            CHECK.due("p11 root of " + bridge, x.root(bridge), 0);
            CHECK.due("p11 cost of " + bridge, x.rootCost(bridge), 7 * bridge);
            CHECK.due("p11 sender to " + bridge, x.stored(2 * bridge, 3), 2 * bridge - 1);
        }
        CHECK.due("p11 too old for bridge 7", x.root(7), 7 * 17);
        CHECK.due("p11 nothing stored there", x.stored(14, 4), SpanningTreeProtocol.NONE);
        CHECK.due("p11 bridge 6 hears bridge 7 and is better", x.role(13), SpanningTreeProtocol.DESIGNATED);
        CHECK.due("p11 what it hears", x.stored(13, 0), 7 * 17);
    }

    private static void promise11TakesWorseNewsFromTheSameSource() {
        SpanningTreeProtocol x = row(3, 7);
        x.tick(5);
        CHECK.due("p11 cost before", x.stored(4, 1), 7);
        x.setCost(2, 90);
        x.tick(1);
        CHECK.due("p11 worse, but from the same source", x.stored(4, 1), 90);
        CHECK.due("p11 lifetime anew", x.stored(4, 4), 5);
    }

    /** A worse message from another source is not taken; what is stored ages until it is lost. */
    private static void promise11KeepsABetterStoredMessage() {
        SpanningTreeProtocol x = new SpanningTreeProtocol();
        x.addSegment();
        for (int bridge = 0; bridge < 3; bridge++) {
            x.addBridge(bridge);
            x.addPort(bridge, 0, 1);
        }
        x.tick(2);
        CHECK.due("p11 bridge 2 hears bridge 0", x.stored(2, 2), 0);
        CHECK.due("p11 bridge 1 is silent", x.role(1), SpanningTreeProtocol.ROOT);
        x.setPriority(1, 0);
        x.setBridge(0, false);
        x.setPort(1, false);
        x.setPort(1, true);
        x.tick(1);
        CHECK.due("p11 bridge 1 as root is worse than bridge 0", x.stored(2, 2), 0);
        CHECK.due("p11 so it ages", x.stored(2, 4), 5);
        x.tick(4);
        CHECK.due("p11 the last tick of it", x.stored(2, 4), 1);
        x.tick(1);
        CHECK.due("p11 lost in step 3", x.stored(2, 2), SpanningTreeProtocol.NONE);
        x.tick(1);
        CHECK.due("p11 then bridge 1 is heard", x.stored(2, 2), 1);
        CHECK.due("p11 with all its lifetime", x.stored(2, 4), 6);
    }

    private static void promise11LifetimeRunsOut() {
        SpanningTreeProtocol x = row(2, 3);
        x.tick(10);
        CHECK.due("p11 refreshed each tick", x.stored(2, 4), 6);
        x.setPort(1, false);
        for (int left = 5; left >= 1; left--) {
            x.tick(1);
            CHECK.due("p11 left " + left, x.stored(2, 4), left);
            CHECK.due("p11 root while it lives", x.root(1), 0);
        }
        CHECK.due("p11 role while it lives", x.role(2), SpanningTreeProtocol.ROOT);
        x.tick(1);
        CHECK.due("p11 lost", x.stored(2, 4), SpanningTreeProtocol.NONE);
        CHECK.due("p11 own root", x.root(1), 17);
        CHECK.due("p11 designated", x.role(2), SpanningTreeProtocol.DESIGNATED);
    }

    /** The best sender hears the next best one, in whatever order the three were added. */
    private static void promise11BestOfTheOthers() {
        int[][] orders = {{0, 1, 2}, {0, 2, 1}, {1, 0, 2}, {1, 2, 0}, {2, 0, 1}, {2, 1, 0}};
        for (int[] order : orders) {
            SpanningTreeProtocol x = new SpanningTreeProtocol();
            x.addSegment();
            int best = 0;
            int next = 0;
            for (int bridge = 0; bridge < 3; bridge++) {
                x.addBridge(order[bridge]);
                x.addPort(bridge, 0, 1);
                best = order[bridge] == 0 ? bridge : best;
                next = order[bridge] == 1 ? bridge : next;
            }
            x.tick(1);
            for (int bridge = 0; bridge < 3; bridge++) {
                int heard = bridge == best ? next : best;
                CHECK.due("p11 whom bridge " + bridge + " hears", x.stored(bridge, 3), heard);
                CHECK.due("p11 its identifier", x.stored(bridge, 2), x.identifier(heard));
            }
        }
    }

    /**
     * Bridge 6 loses its near way to the root (port 12) and keeps a far one (port 11), whose
     * message has one tick to live: it knows the root, but is not allowed to tell bridge 7,
     * which goes on with the message that it has.
     */
    private static void promise11TooOldToBeSent() {
        SpanningTreeProtocol x = new SpanningTreeProtocol();
        for (int bridge = 0; bridge < 8; bridge++) {
            x.addBridge(bridge);
            x.addSegment();
        }
        for (int segment = 0; segment < 6; segment++) {
            x.addPort(segment, segment, 1);
            x.addPort(segment + 1, segment, segment == 5 ? 100 : 1);
        }
        x.addPort(6, 6, 50);
        x.addPort(0, 6, 1);
        x.addPort(6, 7, 1);
        x.addPort(7, 7, 1);
        x.tick(20);
        CHECK.due("p11 the near way", x.rootPort(6), 12);
        CHECK.due("p11 the far way is there", x.role(11), SpanningTreeProtocol.ALTERNATE);
        CHECK.due("p11 with one tick to live", x.stored(11, 4), 1);
        CHECK.due("p11 bridge 7 hears of the near way", x.stored(15, 4), 5);
        x.setPort(12, false);
        CHECK.due("p11 the far way", x.rootPort(6), 11);
        CHECK.due("p11 its cost", x.rootCost(6), 105);
        x.tick(1);
        CHECK.due("p11 the old message ages", x.stored(15, 4), 4);
        CHECK.due("p11 and is the old one", x.stored(15, 1), 50);
        x.tick(3);
        CHECK.due("p11 to the end", x.stored(15, 4), 1);
        x.tick(1);
        CHECK.due("p11 and is lost", x.stored(15, 4), SpanningTreeProtocol.NONE);
        CHECK.due("p11 bridge 6 still knows", x.root(6), 0);
        CHECK.due("p11 bridge 7 does not", x.root(7), 7 * 17);
    }

    private static void promise12Settle() {
        SpanningTreeProtocol x = row(2, 3);
        CHECK.due("p12 7", x.settle(7), SpanningTreeProtocol.OUT_OF_RANGE);
        CHECK.due("p12 201", x.settle(201), SpanningTreeProtocol.OUT_OF_RANGE);
        CHECK.due("p12 -8", x.settle(-8), SpanningTreeProtocol.OUT_OF_RANGE);
        CHECK.due("p12 MAX", x.settle(MAX), SpanningTreeProtocol.OUT_OF_RANGE);
        CHECK.due("p12 errors take no time", x.count(4), 0);
        CHECK.due("p12 too short", x.settle(12), SpanningTreeProtocol.NOT_SETTLED);
        CHECK.due("p12 the ticks are made all the same", x.count(4), 12);
        CHECK.due("p12 quiet ticks of an earlier call do not count", x.settle(8), 8);
        CHECK.due("p12 time", x.count(4), 20);
        CHECK.due("p12 200", x.settle(200), 8);
        SpanningTreeProtocol y = row(2, 3);
        CHECK.due("p12 just enough", y.settle(13), 13);
        CHECK.due("p12 stops there", y.count(4), 13);
        y.setPort(1, false);
        // The role of port 2 changes in the sixth tick; no state does.
        CHECK.due("p12 a change of a role alone", y.settle(50), 14);
        CHECK.due("p12 who it was", y.role(2), SpanningTreeProtocol.DESIGNATED);
        y.setPort(1, true);
        y.setPort(1, false);
        CHECK.due("p12 what changed before the call does not count", y.settle(50), 8);
        SpanningTreeProtocol z = new SpanningTreeProtocol();
        z.addBridge(0);
        z.addSegment();
        z.addPort(0, 0, 1);
        CHECK.due("p12 states alone", z.settle(200), 13);
        settleCountsATickWithTwoChangesOnce();
    }

    /** Roles change in the first tick only; states change in ticks 1, 3 and 5. */
    private static void settleCountsATickWithTwoChangesOnce() {
        SpanningTreeProtocol x = row(2, 3);
        x.tick(5);
        CHECK.due("p12 after the last change", x.settle(8), 8);
        SpanningTreeProtocol y = row(2, 3);
        y.tick(4);
        CHECK.due("p12 before the last change", y.settle(9), 9);
        SpanningTreeProtocol z = row(2, 3);
        z.tick(4);
        CHECK.due("p12 one too few", z.settle(8), SpanningTreeProtocol.NOT_SETTLED);
    }

    private static void promise13Identifier() {
        SpanningTreeProtocol x = new SpanningTreeProtocol();
        CHECK.due("p13 none", x.identifier(0), SpanningTreeProtocol.NO_SUCH_BRIDGE);
        x.addBridge(15);
        x.addBridge(0);
        CHECK.due("p13 0", x.identifier(0), 240);
        CHECK.due("p13 1", x.identifier(1), 1);
        CHECK.due("p13 2", x.identifier(2), SpanningTreeProtocol.NO_SUCH_BRIDGE);
        CHECK.due("p13 -1", x.identifier(-1), SpanningTreeProtocol.NO_SUCH_BRIDGE);
        x.setBridge(1, false);
        CHECK.due("p13 down", x.identifier(1), 1);
    }

    private static void promise14To16Root() {
        SpanningTreeProtocol x = row(3, 9);
        int[] wrong = {-1, 3, MIN, MAX};
        for (int bridge : wrong) {
            CHECK.due("p14 " + bridge, x.root(bridge), SpanningTreeProtocol.NO_SUCH_BRIDGE);
            CHECK.due("p15 " + bridge, x.rootCost(bridge), SpanningTreeProtocol.NO_SUCH_BRIDGE);
            CHECK.due("p16 " + bridge, x.rootPort(bridge), SpanningTreeProtocol.NO_SUCH_BRIDGE);
        }
        CHECK.due("p14 at the start", x.root(2), 34);
        CHECK.due("p15 at the start", x.rootCost(2), 0);
        CHECK.due("p16 at the start", x.rootPort(2), SpanningTreeProtocol.NONE);
        x.tick(1);
        CHECK.due("p14 after one tick", x.root(2), 17);
        CHECK.due("p15 after one tick", x.rootCost(2), 9);
        CHECK.due("p16 after one tick", x.rootPort(2), 4);
        x.tick(1);
        CHECK.due("p14 after two", x.root(2), 0);
        CHECK.due("p15 after two", x.rootCost(2), 18);
        CHECK.due("p16 of the root", x.rootPort(0), SpanningTreeProtocol.NONE);
        x.setBridge(2, false);
        CHECK.due("p14 down", x.root(2), SpanningTreeProtocol.NONE);
        CHECK.due("p15 down", x.rootCost(2), SpanningTreeProtocol.NONE);
        CHECK.due("p16 down", x.rootPort(2), SpanningTreeProtocol.NONE);
    }

    /** Each pair of offers differs in one number alone, from the root to the port itself. */
    private static void promise16TiesOfOffers() {
        SpanningTreeProtocol byCost = twoWays(10, 9);
        CHECK.due("p16 by cost", byCost.rootPort(3), 5);
        CHECK.due("p15 by cost", byCost.rootCost(3), 10);
        SpanningTreeProtocol bySender = twoWays(9, 9);
        CHECK.due("p16 by sender", bySender.rootPort(3), 4);
        bySender.setPriority(1, 3);
        bySender.tick(3);
        CHECK.due("p16 the message of the former identifier lives on", bySender.rootPort(3), 4);
        bySender.tick(7);
        CHECK.due("p16 by sender, the other way", bySender.rootPort(3), 5);
        SpanningTreeProtocol bySenderPort = new SpanningTreeProtocol();
        bySenderPort.addBridge(0);
        bySenderPort.addBridge(1);
        bySenderPort.addSegment();
        bySenderPort.addSegment();
        bySenderPort.addPort(1, 0, 1);
        bySenderPort.addPort(1, 1, 1);
        bySenderPort.addPort(0, 1, 1);
        bySenderPort.addPort(0, 0, 1);
        bySenderPort.tick(3);
        CHECK.due("p16 by sending port", bySenderPort.rootPort(1), 1);
        CHECK.due("p17 the other one", bySenderPort.role(0), SpanningTreeProtocol.ALTERNATE);
        SpanningTreeProtocol byPort = new SpanningTreeProtocol();
        byPort.addBridge(1);
        byPort.addBridge(0);
        byPort.addSegment();
        byPort.addPort(0, 0, 4);
        byPort.addPort(0, 0, 4);
        byPort.addPort(1, 0, 4);
        byPort.tick(3);
        CHECK.due("p16 by the port itself", byPort.rootPort(0), 0);
        CHECK.due("p17 the other one is alternate", byPort.role(1), SpanningTreeProtocol.ALTERNATE);
        byPort.setCost(0, 5);
        CHECK.due("p16 the cost of the port comes first", byPort.rootPort(0), 1);
    }

    /** Bridge 0 is the root; bridge 3 reaches it through bridge 1 (port 4) or 2 (port 5). */
    private static SpanningTreeProtocol twoWays(int costOfFirst, int costOfSecond) {
        SpanningTreeProtocol x = new SpanningTreeProtocol();
        x.addBridge(0);
        x.addBridge(2);
        x.addBridge(2);
        x.addBridge(5);
        x.addSegment();
        x.addSegment();
        x.addSegment();
        x.addPort(1, 0, costOfFirst);
        x.addPort(1, 1, 1);
        x.addPort(2, 0, costOfSecond);
        x.addPort(2, 2, 1);
        x.addPort(3, 1, 1);
        x.addPort(3, 2, 1);
        x.addPort(0, 0, 1);
        x.tick(4);
        return x;
    }

    private static void promise17Role() {
        SpanningTreeProtocol x = new SpanningTreeProtocol();
        CHECK.due("p17 none", x.role(0), SpanningTreeProtocol.NO_SUCH_PORT);
        x.addBridge(0);
        x.addBridge(1);
        x.addSegment();
        x.addSegment();
        x.addPort(0, 0, 1);
        x.addPort(0, 0, 1);
        x.addPort(1, 0, 1);
        x.addPort(1, 1, 1);
        x.addPort(0, 1, 1);
        CHECK.due("p17 -1", x.role(-1), SpanningTreeProtocol.NO_SUCH_PORT);
        CHECK.due("p17 5", x.role(5), SpanningTreeProtocol.NO_SUCH_PORT);
        CHECK.due("p17 MAX", x.role(MAX), SpanningTreeProtocol.NO_SUCH_PORT);
        CHECK.due("p17 at the start", x.role(1), SpanningTreeProtocol.DESIGNATED);
        x.tick(2);
        CHECK.due("p17 designated", x.role(0), SpanningTreeProtocol.DESIGNATED);
        CHECK.due("p17 backup", x.role(1), SpanningTreeProtocol.BACKUP);
        CHECK.due("p17 root", x.role(2), SpanningTreeProtocol.ROOT);
        CHECK.due("p17 alternate", x.role(3), SpanningTreeProtocol.ALTERNATE);
        CHECK.due("p17 designated on the other segment", x.role(4), SpanningTreeProtocol.DESIGNATED);
        x.setPort(2, false);
        CHECK.due("p17 disabled", x.role(2), SpanningTreeProtocol.DISABLED);
        CHECK.due("p17 follows at once", x.role(3), SpanningTreeProtocol.ROOT);
        x.setPriority(1, 0);
        CHECK.due("p17 still root", x.role(3), SpanningTreeProtocol.ROOT);
        x.setPriority(0, 9);
        CHECK.due("p17 old identifier is somebody else's", x.role(1), SpanningTreeProtocol.ROOT);
    }

    private static void promise18State() {
        SpanningTreeProtocol x = new SpanningTreeProtocol();
        CHECK.due("p18 none", x.state(0), SpanningTreeProtocol.NO_SUCH_PORT);
        x.addBridge(0);
        x.addSegment();
        x.addPort(0, 0, 1);
        CHECK.due("p18 -1", x.state(-1), SpanningTreeProtocol.NO_SUCH_PORT);
        CHECK.due("p18 1", x.state(1), SpanningTreeProtocol.NO_SUCH_PORT);
        CHECK.due("p18 MIN", x.state(MIN), SpanningTreeProtocol.NO_SUCH_PORT);
        int[] due = {1, 2, 2, 3, 3, 4, 4, 4};
        for (int time = 0; time < due.length; time++) {
            CHECK.due("p18 at " + time, x.state(0), due[time]);
            x.tick(1);
        }
        x.setPort(0, false);
        CHECK.due("p18 off", x.state(0), SpanningTreeProtocol.OFF);
        x.tick(1);
        CHECK.due("p18 still off", x.state(0), SpanningTreeProtocol.OFF);
        x.setPort(0, true);
        for (int time = 0; time < due.length; time++) {
            CHECK.due("p18 again at " + time, x.state(0), due[time]);
            x.tick(1);
        }
    }

    /** A port that forwards, and one that listens, are blocked in the tick that makes them alternate. */
    private static void promise18BackToBlocking() {
        SpanningTreeProtocol x = row(2, 3);
        x.tick(20);
        x.addPort(0, 2, 1);
        x.setCost(3, 1);
        CHECK.due("p18 forwarding before", x.state(2), SpanningTreeProtocol.FORWARDING);
        x.tick(1);
        CHECK.due("p18 the new root port", x.role(3), SpanningTreeProtocol.ROOT);
        CHECK.due("p18 the former root port", x.role(2), SpanningTreeProtocol.ALTERNATE);
        CHECK.due("p18 blocked", x.state(2), SpanningTreeProtocol.BLOCKING);
        CHECK.due("p18 the new root port goes on forwarding", x.state(3), SpanningTreeProtocol.FORWARDING);
        x.setPort(3, false);
        CHECK.due("p18 root again", x.role(2), SpanningTreeProtocol.ROOT);
        CHECK.due("p18 but blocking until the tick", x.state(2), SpanningTreeProtocol.BLOCKING);
        x.tick(2);
        CHECK.due("p18 listening", x.state(2), SpanningTreeProtocol.LISTENING);
        x.setPort(3, true);
        x.tick(1);
        CHECK.due("p18 the other one is root", x.role(3), SpanningTreeProtocol.ROOT);
        CHECK.due("p18 blocked from listening", x.state(2), SpanningTreeProtocol.BLOCKING);
        x.setPort(3, false);
        x.tick(2);
        CHECK.due("p18 the counter starts anew", x.state(2), SpanningTreeProtocol.LISTENING);
        x.tick(1);
        CHECK.due("p18 learning", x.state(2), SpanningTreeProtocol.LEARNING);
    }

    private static void promise19Stored() {
        SpanningTreeProtocol x = new SpanningTreeProtocol();
        CHECK.due("p19 port first", x.stored(0, 9), SpanningTreeProtocol.NO_SUCH_PORT);
        x = row(3, 100);
        CHECK.due("p19 what -1", x.stored(0, -1), SpanningTreeProtocol.OUT_OF_RANGE);
        CHECK.due("p19 what 5", x.stored(0, 5), SpanningTreeProtocol.OUT_OF_RANGE);
        CHECK.due("p19 what MAX", x.stored(0, MAX), SpanningTreeProtocol.OUT_OF_RANGE);
        CHECK.due("p19 port -1", x.stored(-1, 0), SpanningTreeProtocol.NO_SUCH_PORT);
        CHECK.due("p19 port 6", x.stored(6, 0), SpanningTreeProtocol.NO_SUCH_PORT);
        for (int what = 0; what <= 4; what++) {
            CHECK.due("p19 nothing stored", x.stored(4, what), SpanningTreeProtocol.NONE);
        }
        x.tick(9);
        CHECK.due("p19 root", x.stored(4, 0), 0);
        CHECK.due("p19 cost", x.stored(4, 1), 100);
        CHECK.due("p19 sending bridge", x.stored(4, 2), 17);
        CHECK.due("p19 sending port", x.stored(4, 3), 3);
        CHECK.due("p19 lifetime", x.stored(4, 4), 5);
        CHECK.due("p19 the sender's port hears nothing", x.stored(3, 0), SpanningTreeProtocol.NONE);
        x.setPriority(2, 15);
        x.setPriority(0, 15);
        x.setPriority(1, 14);
        x.tick(20);
        CHECK.due("p19 large identifiers, root", x.stored(4, 0), 225);
        CHECK.due("p19 large identifiers, sender", x.stored(4, 2), 225);
    }
}
