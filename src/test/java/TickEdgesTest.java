/**
 * The sentences of the document's Description under ROOT OF A BRIDGE, ROLES, STATES and TICK
 * that bound something: a method for each, which begins with the sentence.
 */
public final class TickEdgesTest {
    private static final Check CHECK = new Check();
    private static final int NONE = -9;
    private static final int DISABLED = 0, ROOT = 1, DESIGNATED = 2, ALTERNATE = 3, BACKUP = 4;
    private static final int OFF = 0, BLOCKING = 1, LISTENING = 2, LEARNING = 3, FORWARDING = 4;

    public static void main(String[] args) {
        ownMessagesAreNoOffers();
        offersByRoot();
        offersByCost();
        offersBySender();
        offersBySendingPort();
        offersByPort();
        aRootThatIsNotSmaller();
        noOfferAtAll();
        aBridgeThatIsDown();
        roles();
        backupByIdentifier();
        rolesFollowAtOnce();
        statesOfAPortThatIsSwitched();
        aPortAddedToABridgeThatIsDown();
        statesChangeInTicksOnly();
        agesAt5And6();
        anAgeOf6TakesNothingAway();
        agesGrowWithTheStoredMessage();
        rolesAndMessagesBeforeTheTick();
        anotherPort();
        aMessageThatIsNotWorse();
        aWorseMessageOfTheSameSource();
        aWorseMessageOfTheSameBridgeAndAnotherPort();
        aWorseMessageOfTheSamePortAndAnotherBridge();
        theSourceIsWhatTheMessageSays();
        theBestMessageAlone();
        theBestMessageOfTheOthers();
        aNewMessageDoesNotAgeInItsTick();
        theLastTickOfAMessage();
        rolesOfStep4AreTheNewOnes();
        countersOf2();
        aCounterStartsAnew();
        forwardingStays();
        aRoleThatChangesInATick();
        aPortThatTakesOverInATick();
        theLastTickOfAnEntry();
        CHECK.end();
    }

    /**
     * Bridge 0 is the root (port 0); bridge 1 hears it at port 1, and its ports 2 and 3 share
     * segment 1, so that port 3 stores what port 2 sends.
     */
    private static SpanningTreeProtocol withABackup() {
        SpanningTreeProtocol x = Lan.of(Lan.priorities(0, 1), 2,
                new int[][] {{0, 0, 1}, {1, 0, 5}, {1, 1, 1}, {1, 1, 1}});
        x.tick(8);
        return x;
    }

    /** "stores a message whose sending bridge is not the identifier of this bridge" */
    private static void ownMessagesAreNoOffers() {
        SpanningTreeProtocol x = withABackup();
        CHECK.due("port 3 stores the own bridge's message", x.stored(3, 2), 17);
        CHECK.due("with a root that is smaller", x.stored(3, 0), 0);
        x.setPort(1, false);
        CHECK.due("it stores it still", x.stored(3, 0), 0);
        CHECK.due("but it is no offer", x.rootPort(1), NONE);
        CHECK.due("so the bridge is its own root", x.root(1), 17);
        CHECK.due("at no cost", x.rootCost(1), 0);
    }

    /** "The offers are compared number by number in this order": the root first. */
    private static void offersByRoot() {
        SpanningTreeProtocol x = Lan.of(Lan.priorities(1, 0, 9), 2,
                new int[][] {{0, 0, 1}, {1, 1, 1}, {2, 0, 1}, {2, 1, 100}});
        x.tick(1);
        CHECK.due("the better root at the higher cost", x.rootPort(2), 3);
        CHECK.due("is the root", x.root(2), 1);
        CHECK.due("at this cost", x.rootCost(2), 100);
    }

    /** "the cost increased by the cost of the port": the sum decides, not what the message says. */
    private static void offersByCost() {
        // Port 4 hears of the root at the cost 0, port 5 at the cost 3.
        SpanningTreeProtocol x = Lan.of(Lan.priorities(0, 1, 9), 2,
                new int[][] {{0, 0, 1}, {1, 0, 3}, {1, 1, 1}, {0, 0, 1}, {2, 0, 5}, {2, 1, 1}});
        x.tick(3);
        CHECK.due("4 is less than 5", x.rootPort(2), 5);
        CHECK.due("the sum", x.rootCost(2), 4);
        x.setCost(4, 3);
        CHECK.due("3 is less than 4", x.rootPort(2), 4);
        CHECK.due("the sum of the other one", x.rootCost(2), 3);
    }

    /** Bridge 3 reaches the root at equal costs through bridge 1 (its port 5) and bridge 2 (its port 4). */
    private static SpanningTreeProtocol twoEqualWays() {
        SpanningTreeProtocol x = Lan.of(Lan.priorities(0, 1, 2, 9), 3, new int[][] {
            {0, 0, 1}, {2, 0, 4}, {2, 1, 1}, {1, 0, 4}, {3, 1, 1}, {3, 2, 1}, {1, 2, 1}});
        x.tick(3);
        return x;
    }

    /** "then the sending bridge": before the sending port and the port, which speak for port 4. */
    private static void offersBySender() {
        SpanningTreeProtocol x = twoEqualWays();
        CHECK.due("the sender at port 4", x.stored(4, 3), 2);
        CHECK.due("the sender at port 5", x.stored(5, 3), 6);
        CHECK.due("the better sender", x.rootPort(3), 5);
        x.setCost(4, 1);
        x.setCost(5, 2);
        CHECK.due("but the cost comes first", x.rootPort(3), 4);
    }

    /** "and the sending port of the message": before the port, which speaks for port 2. */
    private static void offersBySendingPort() {
        SpanningTreeProtocol x = Lan.of(Lan.priorities(0, 1), 2,
                new int[][] {{0, 0, 1}, {0, 1, 1}, {1, 1, 1}, {1, 0, 1}});
        x.tick(2);
        CHECK.due("the sender at port 2", x.stored(2, 3), 1);
        CHECK.due("the sender at port 3", x.stored(3, 3), 0);
        CHECK.due("the smaller sending port", x.rootPort(1), 3);
    }

    /** "then the number of the port itself" */
    private static void offersByPort() {
        SpanningTreeProtocol x = Lan.of(Lan.priorities(0, 1), 1,
                new int[][] {{0, 0, 1}, {1, 0, 2}, {1, 0, 2}, {1, 0, 2}});
        x.tick(2);
        CHECK.due("the smallest port", x.rootPort(1), 1);
        x.setPort(1, false);
        CHECK.due("then the next", x.rootPort(1), 2);
        x.setCost(3, 1);
        CHECK.due("but the cost comes first", x.rootPort(1), 3);
    }

    /** "If .. the root of the smallest one is smaller than the identifier of the bridge": not larger, not equal. */
    private static void aRootThatIsNotSmaller() {
        SpanningTreeProtocol larger = Lan.pair();
        larger.tick(1);
        CHECK.due("larger: stored", larger.stored(0, 0), 17);
        CHECK.due("larger: root", larger.root(0), 0);
        CHECK.due("larger: root port", larger.rootPort(0), NONE);
        CHECK.due("larger: role", larger.role(0), DESIGNATED);
        SpanningTreeProtocol equal = Lan.of(Lan.priorities(0, 1), 2,
                new int[][] {{0, 0, 1}, {0, 1, 1}, {1, 0, 1}, {1, 1, 1}});
        equal.setPort(1, false);
        equal.tick(3);
        equal.setPort(1, true);
        equal.tick(1);
        CHECK.due("equal: stored root", equal.stored(1, 0), 0);
        CHECK.due("equal: stored sender", equal.stored(1, 2), 17);
        CHECK.due("equal: root", equal.root(0), 0);
        CHECK.due("equal: root port", equal.rootPort(0), NONE);
        CHECK.due("equal: root cost", equal.rootCost(0), 0);
        CHECK.due("equal: role", equal.role(1), DESIGNATED);
        larger.setPriority(1, 0);
        larger.setPriority(0, 1);
        CHECK.due("a stored root that is smaller than the own identifier by as little as can be", larger.root(1), 0);
        CHECK.due("a stored root that is larger by one", larger.root(0), 16);
    }

    /** "Otherwise the bridge has no root port; its root is its own identifier, and its root cost is 0." */
    private static void noOfferAtAll() {
        SpanningTreeProtocol x = new SpanningTreeProtocol();
        x.addBridge(15);
        CHECK.due("a bridge without ports: root", x.root(0), 240);
        CHECK.due("a bridge without ports: cost", x.rootCost(0), 0);
        CHECK.due("a bridge without ports: port", x.rootPort(0), NONE);
        x.addSegment();
        x.addPort(0, 0, 100);
        x.tick(10);
        CHECK.due("a bridge alone: root", x.root(0), 240);
        CHECK.due("a bridge alone: cost", x.rootCost(0), 0);
        CHECK.due("a bridge alone: port", x.rootPort(0), NONE);
        x.setPort(0, false);
        CHECK.due("a bridge up with all ports down: root", x.root(0), 240);
    }

    /** "A bridge that is down has no root and no root port." */
    private static void aBridgeThatIsDown() {
        SpanningTreeProtocol x = Lan.pair();
        x.tick(3);
        CHECK.due("up: root port", x.rootPort(1), 1);
        x.setBridge(1, false);
        CHECK.due("down: root", x.root(1), NONE);
        CHECK.due("down: cost", x.rootCost(1), NONE);
        CHECK.due("down: root port", x.rootPort(1), NONE);
        x.setBridge(1, true);
        CHECK.due("up again: root", x.root(1), 17);
        CHECK.due("up again: cost", x.rootCost(1), 0);
        CHECK.due("up again: root port", x.rootPort(1), NONE);
    }

    /** ROLES: "A port that is not active is DISABLED .. ROOT .. DESIGNATED .. BACKUP .. ALTERNATE" */
    private static void roles() {
        SpanningTreeProtocol x = withABackup();
        x.addPort(1, 0, 9);
        CHECK.due("stores no message", x.role(4), DESIGNATED);
        x.tick(1);
        CHECK.due("stores a better one of another bridge", x.role(4), ALTERNATE);
        CHECK.due("the root port", x.role(1), ROOT);
        CHECK.due("stores nothing", x.role(2), DESIGNATED);
        CHECK.due("stores a better one of its own bridge", x.role(3), BACKUP);
        x.setPort(3, false);
        CHECK.due("not active, by the port", x.role(3), DISABLED);
        x.setBridge(0, false);
        CHECK.due("not active, by the bridge", x.role(0), DISABLED);
        SpanningTreeProtocol y = Lan.pair();
        y.tick(1);
        CHECK.due("stores a worse one", y.role(0), DESIGNATED);
        SpanningTreeProtocol z = twoEqualWays();
        z.addPort(1, 1, 1);
        z.tick(1);
        CHECK.due("the stored one is better by its sender alone", z.role(2), ALTERNATE);
        CHECK.due("and worse by its sender alone", z.role(7), DESIGNATED);
    }

    /** "BACKUP if the sending bridge of the stored message is the identifier of its own bridge" */
    private static void backupByIdentifier() {
        SpanningTreeProtocol x = withABackup();
        CHECK.due("backup", x.role(3), BACKUP);
        x.setPriority(1, 2);
        CHECK.due("the stored sender is another identifier now", x.role(3), ALTERNATE);
        CHECK.due("the root port is the same", x.role(1), ROOT);
        x.setPriority(1, 1);
        CHECK.due("and the own one again", x.role(3), BACKUP);
    }

    /** "The role of a port follows from what is stored at the moment." */
    private static void rolesFollowAtOnce() {
        SpanningTreeProtocol x = twoEqualWays();
        CHECK.due("before", x.role(5), ROOT);
        CHECK.due("before, the other", x.role(4), ALTERNATE);
        x.setCost(5, 2);
        CHECK.due("after setCost", x.role(5), ALTERNATE);
        CHECK.due("after setCost, the other", x.role(4), ROOT);
        x.setPort(4, false);
        CHECK.due("after setPort", x.role(5), ROOT);
        x.setBridge(3, false);
        CHECK.due("after setBridge", x.role(5), DISABLED);
        SpanningTreeProtocol y = Lan.pair();
        y.tick(1);
        y.setPriority(0, 2);
        CHECK.due("after setPriority", y.role(0), ROOT);
        rootsFollowAtOnce();
    }

    /** Each question is the first one after its change. */
    private static void rootsFollowAtOnce() {
        SpanningTreeProtocol x = twoEqualWays();
        x.setCost(5, 2);
        CHECK.due("root port after setCost", x.rootPort(3), 4);
        x.setCost(4, 7);
        CHECK.due("root cost after setCost", x.rootCost(3), 6);
        x.setCost(5, 9);
        CHECK.due("root cost after setCost again", x.rootCost(3), 11);
        x.setBridge(3, false);
        x.setBridge(3, true);
        CHECK.due("root after setBridge", x.root(3), 16 * 9 + 3);
    }

    /** "A port that is not active has the state OFF. A port that becomes active has the state BLOCKING." */
    private static void statesOfAPortThatIsSwitched() {
        int[] due = {BLOCKING, LISTENING, LISTENING, LEARNING, LEARNING, FORWARDING};
        for (int ticks = 0; ticks < due.length; ticks++) {
            SpanningTreeProtocol x = Lan.pair();
            if (ticks > 0) {
                x.tick(ticks);
            }
            CHECK.due("after " + ticks + " ticks", x.state(1), due[ticks]);
            x.setPort(1, true);
            x.setBridge(1, true);
            CHECK.due("up already, after " + ticks, x.state(1), due[ticks]);
            x.setPort(1, false);
            CHECK.due("off from " + due[ticks], x.state(1), OFF);
            x.tick(1);
            CHECK.due("off after a tick", x.state(1), OFF);
            x.setPort(1, true);
            CHECK.due("blocking again", x.state(1), BLOCKING);
            x.tick(2);
            CHECK.due("with the whole counter", x.state(1), LISTENING);
            x.setBridge(1, false);
            CHECK.due("off by the bridge", x.state(1), OFF);
            x.setBridge(1, true);
            CHECK.due("blocking by the bridge", x.state(1), BLOCKING);
        }
        SpanningTreeProtocol y = new SpanningTreeProtocol();
        y.addBridge(0);
        y.addSegment();
        y.setBridge(0, false);
        y.addPort(0, 0, 1);
        CHECK.due("added to a bridge that is down", y.state(0), OFF);
        y.tick(3);
        CHECK.due("it stays off", y.state(0), OFF);
        y.setBridge(0, true);
        CHECK.due("it becomes active with the bridge", y.state(0), BLOCKING);
    }

    /** 4: "Adds a port that is up"; "A port is active if it and its bridge are up.": so it is up, but not active. */
    private static void aPortAddedToABridgeThatIsDown() {
        SpanningTreeProtocol x = Lan.of(Lan.priorities(3, 0), 2, new int[][] {{0, 0, 1}});
        x.setBridge(1, false);
        x.addPort(1, 0, 1);
        x.addPort(1, 1, 1);
        CHECK.due("off", x.portsIn(OFF), 6);
        CHECK.due("disabled", x.role(1), DISABLED);
        x.tick(2);
        CHECK.due("off after ticks", x.portsIn(OFF), 6);
        CHECK.due("it hears nothing", x.stored(1, 0), NONE);
        CHECK.due("it is not heard", x.stored(0, 0), NONE);
        CHECK.due("it was up: port 1", x.setPort(1, false), 1);
        CHECK.due("and is up again", x.setPort(1, true), 0);
        CHECK.due("up, but its bridge is not", x.state(1), OFF);
        CHECK.due("it was up: port 2", x.setPort(2, false), 1);
        x.setBridge(1, true);
        CHECK.due("active with its bridge", x.state(1), BLOCKING);
        CHECK.due("and designated", x.role(1), DESIGNATED);
        CHECK.due("the one that is down stays off", x.state(2), OFF);
        x.tick(1);
        CHECK.due("it is heard", x.stored(0, 2), 1);
        CHECK.due("it hears", x.stored(1, 2), 48);
    }

    /** "All other changes of states happen in ticks." */
    private static void statesChangeInTicksOnly() {
        SpanningTreeProtocol x = twoEqualWays();
        x.tick(10);
        CHECK.due("the root port forwards", x.state(5), FORWARDING);
        CHECK.due("the alternate port blocks", x.state(4), BLOCKING);
        x.setCost(5, 9);
        CHECK.due("the roles are changed", x.role(4), ROOT);
        CHECK.due("the former root port forwards still", x.state(5), FORWARDING);
        CHECK.due("the new one blocks still", x.state(4), BLOCKING);
        x.setPriority(3, 0);
        CHECK.due("nor by a priority", x.state(4), BLOCKING);
        x.setPriority(3, 9);
        x.tick(1);
        CHECK.due("the tick blocks the one", x.state(5), BLOCKING);
        CHECK.due("and lets the other listen", x.state(4), LISTENING);
    }

    /** "a message whose age would be greater than 5 is not sent": 5 is sent, 6 is not. */
    private static void agesAt5And6() {
        SpanningTreeProtocol x = Lan.row(8, 1);
        x.tick(20);
        CHECK.due("bridge 5 has 2 ticks left", x.stored(10, 4), 2);
        CHECK.due("its message has the age 5 and 1 tick left", x.stored(12, 4), 1);
        CHECK.due("bridge 6 knows the root", x.root(6), 0);
        CHECK.due("and would send", x.role(13), DESIGNATED);
        CHECK.due("but the age would be 6", x.stored(14, 0), NONE);
        CHECK.due("bridge 7 does not know it", x.root(7), 16 * 7 + 7);
    }

    /**
     * ".. is not sent": bridge 6 loses its near way to the root (port 12) and keeps the far one
     * (port 11), whose message has one tick left. What bridge 7 has of the near way lives on.
     */
    private static void anAgeOf6TakesNothingAway() {
        SpanningTreeProtocol x = Lan.of(Lan.priorities(0, 1, 2, 3, 4, 5, 6, 7), 8, new int[][] {
            {0, 0, 1}, {1, 0, 1}, {1, 1, 1}, {2, 1, 1}, {2, 2, 1}, {3, 2, 1}, {3, 3, 1}, {4, 3, 1}, {4, 4, 1},
            {5, 4, 1}, {5, 5, 1}, {6, 5, 100}, {6, 6, 50}, {0, 6, 1}, {6, 7, 1}, {7, 7, 1}});
        x.tick(20);
        CHECK.due("the near way", x.rootPort(6), 12);
        CHECK.due("1 is left of the far way", x.stored(11, 4), 1);
        CHECK.due("5 are left at bridge 7", x.stored(15, 4), 5);
        x.setPort(12, false);
        CHECK.due("the far way is the root's", x.rootPort(6), 11);
        CHECK.due("bridge 6 would send", x.role(14), DESIGNATED);
        int[] due = {4, 3, 2, 1, NONE};
        for (int left : due) {
            x.tick(1);
            CHECK.due("left at bridge 7", x.stored(15, 4), left);
            CHECK.due("of the near way", x.stored(15, 1), left == NONE ? NONE : 50);
        }
    }

    /** "the age is 7 minus the remaining lifetime of the message that is stored at the root port" */
    private static void agesGrowWithTheStoredMessage() {
        SpanningTreeProtocol x = Lan.row(3, 1);
        x.tick(10);
        CHECK.due("without a root port the age is 0", x.stored(2, 4), 6);
        CHECK.due("at the first hop it is 1", x.stored(4, 4), 5);
        x.setBridge(0, false);
        int[] dueAtBridge1 = {5, 4, 3, 2, 1, NONE};
        int[] dueAtBridge2 = {5, 4, 3, 2, 1, NONE};
        for (int tick = 0; tick < 6; tick++) {
            x.tick(1);
            CHECK.due("bridge 1 after tick " + tick, x.stored(2, 4), dueAtBridge1[tick]);
            CHECK.due("bridge 2 after tick " + tick, x.stored(4, 4), dueAtBridge2[tick]);
        }
        x.tick(1);
        CHECK.due("bridge 1 is the root now", x.stored(4, 0), 17);
        CHECK.due("with the age 0", x.stored(4, 4), 6);
    }

    /** "All roles and messages are those before the tick." */
    private static void rolesAndMessagesBeforeTheTick() {
        SpanningTreeProtocol x = Lan.row(5, 1);
        for (int tick = 1; tick <= 4; tick++) {
            x.tick(1);
            for (int bridge = 1; bridge < 5; bridge++) {
                int heardOf = Math.max(0, bridge - tick);
                CHECK.due("root of " + bridge + " after " + tick, x.root(bridge), 17 * heardOf);
                CHECK.due("cost of " + bridge + " after " + tick, x.rootCost(bridge), bridge - heardOf);
            }
        }
    }

    /** "Each active port looks at the best message that another port sent .. if there is one" */
    private static void anotherPort() {
        SpanningTreeProtocol x = Lan.of(Lan.priorities(3), 2, new int[][] {{0, 0, 1}, {0, 1, 1}});
        x.tick(9);
        CHECK.due("no port hears itself", x.stored(0, 0), NONE);
        CHECK.due("nor a port on another segment", x.stored(1, 0), NONE);
        x.addPort(0, 1, 1);
        x.tick(1);
        CHECK.due("the other port may belong to the same bridge", x.stored(2, 3), 1);
        CHECK.due("both hear each other", x.stored(1, 3), 2);
        x.addPort(0, 0, 1);
        x.setPort(3, false);
        x.tick(1);
        CHECK.due("a port that is not active hears nothing", x.stored(3, 0), NONE);
        CHECK.due("and sends nothing", x.stored(0, 0), NONE);
    }

    /** "if the sent message is not worse than the stored one": an equal or a better one. */
    private static void aMessageThatIsNotWorse() {
        SpanningTreeProtocol x = Lan.of(Lan.priorities(2, 9, 1), 1, new int[][] {{0, 0, 1}, {1, 0, 1}});
        x.tick(1);
        for (int tick = 0; tick < 8; tick++) {
            x.tick(1);
            CHECK.due("an equal one is stored anew", x.stored(1, 4), 6);
        }
        x.addPort(2, 0, 1);
        x.tick(1);
        CHECK.due("a better one is stored", x.stored(1, 0), 18);
        CHECK.due("with its port", x.stored(1, 3), 2);
        CHECK.due("at port 0 too", x.stored(0, 0), 18);
    }

    /** "or if both have the same sending bridge and the same sending port" */
    private static void aWorseMessageOfTheSameSource() {
        SpanningTreeProtocol x = Lan.row(3, 1);
        x.tick(5);
        x.setCost(2, 100);
        x.tick(1);
        CHECK.due("a worse cost of the same source", x.stored(4, 1), 100);
        CHECK.due("with its lifetime", x.stored(4, 4), 5);
        x.setPort(2, false);
        x.tick(1);
        CHECK.due("a worse root of the same source", x.stored(4, 0), 17);
        CHECK.due("with all of its lifetime", x.stored(4, 4), 6);
    }

    /** ".. the same sending bridge AND the same sending port": another port is another source. */
    private static void aWorseMessageOfTheSameBridgeAndAnotherPort() {
        SpanningTreeProtocol x = Lan.of(Lan.priorities(0, 9), 1, new int[][] {{0, 0, 1}, {0, 0, 1}, {1, 0, 1}});
        x.tick(4);
        CHECK.due("before", x.stored(2, 3), 0);
        x.setPort(0, false);
        x.setPort(1, false);
        x.setPort(1, true);
        int[] due = {5, 4, 3, 2, 1, NONE};
        for (int left : due) {
            CHECK.due("port 1 sends", x.role(1), DESIGNATED);
            x.tick(1);
            CHECK.due("it is not taken", x.stored(2, 4), left);
        }
        x.tick(1);
        CHECK.due("it is taken where nothing is stored", x.stored(2, 3), 1);
    }

    /** "the same sending bridge AND the same sending port": another identifier is another source. */
    private static void aWorseMessageOfTheSamePortAndAnotherBridge() {
        SpanningTreeProtocol x = Lan.of(Lan.priorities(0, 9), 1, new int[][] {{0, 0, 1}, {1, 0, 1}});
        x.tick(4);
        CHECK.due("before", x.stored(1, 2), 0);
        x.setPriority(0, 3);
        int[] due = {5, 4, 3, 2, 1, NONE};
        for (int left : due) {
            x.tick(1);
            CHECK.due("it is not taken", x.stored(1, 4), left);
        }
        x.tick(1);
        CHECK.due("it is taken where nothing is stored", x.stored(1, 2), 48);
    }

    /** "the identifier of the sending bridge": as it was when the message was sent; "Stored messages do not change." */
    private static void theSourceIsWhatTheMessageSays() {
        SpanningTreeProtocol x = Lan.of(Lan.priorities(1, 9), 1, new int[][] {{0, 0, 1}, {1, 0, 1}});
        x.tick(4);
        x.setPriority(0, 3);
        x.tick(2);
        CHECK.due("a worse message of another identifier is not taken", x.stored(1, 2), 16);
        CHECK.due("what is stored grows old", x.stored(1, 4), 4);
        x.setPriority(0, 1);
        x.tick(1);
        CHECK.due("with the identifier back it is taken", x.stored(1, 2), 16);
        CHECK.due("with all of its lifetime", x.stored(1, 4), 6);
        x.setPriority(0, 0);
        x.tick(1);
        CHECK.due("a better message of another identifier is taken", x.stored(1, 2), 0);
        CHECK.due("with all of its lifetime too", x.stored(1, 4), 6);
    }

    /**
     * "looks at the best message": port 6 has stored bridge 1's message. Bridge 1's next one is
     * worse, and bridge 2's is between the two; being the best one sent, it alone is looked at,
     * and is neither better than what is stored nor of its source.
     */
    private static void theBestMessageAlone() {
        SpanningTreeProtocol x = Lan.of(Lan.priorities(0, 1, 2, 9), 2, new int[][] {
            {0, 0, 1}, {1, 0, 10}, {2, 0, 20}, {1, 1, 1}, {2, 1, 1}, {0, 0, 1}, {3, 1, 1}});
        x.tick(10);
        CHECK.due("bridge 1 has forgotten what bridge 2 once sent", x.stored(3, 0), NONE);
        CHECK.due("before", x.stored(6, 3), 3);
        CHECK.due("its lifetime before", x.stored(6, 4), 5);
        x.setCost(1, 30);
        x.setCost(3, 100);
        x.setPort(4, false);
        x.setPort(4, true);
        CHECK.due("bridge 1 sends", x.role(3), DESIGNATED);
        CHECK.due("bridge 2 sends", x.role(4), DESIGNATED);
        x.tick(1);
        CHECK.due("the old message stays", x.stored(6, 1), 10);
        CHECK.due("and ages", x.stored(6, 4), 4);
        x.tick(3);
        CHECK.due("to its end", x.stored(6, 4), 1);
        x.tick(1);
        CHECK.due("where it is lost", x.stored(6, 4), NONE);
        x.tick(1);
        CHECK.due("then bridge 2's is stored", x.stored(6, 1), 20);
    }

    /** "the best message that another port sent": the best sender hears the next best, in any order of ports. */
    private static void theBestMessageOfTheOthers() {
        int[][] orders = {{1, 2, 3}, {1, 3, 2}, {2, 1, 3}, {2, 3, 1}, {3, 1, 2}, {3, 2, 1}};
        for (int[] order : orders) {
            SpanningTreeProtocol x = Lan.of(order, 1, new int[][] {{0, 0, 1}, {1, 0, 1}, {2, 0, 1}});
            x.tick(1);
            for (int port = 0; port < 3; port++) {
                int heard = portOf(order, order[port] == 1 ? 2 : 1);
                CHECK.due("the bridge that " + order[port] + " hears", x.stored(port, 2), x.identifier(heard));
                CHECK.due("and its port", x.stored(port, 3), heard);
            }
        }
        SpanningTreeProtocol pair = Lan.of(Lan.priorities(1, 0), 1, new int[][] {{0, 0, 1}, {1, 0, 1}});
        pair.tick(1);
        CHECK.due("the better one of two comes last and hears the first", pair.stored(1, 3), 0);
    }

    private static int portOf(int[] order, int priority) {
        int port = 0;
        while (order[port] != priority) {
            port++;
        }
        return port;
    }

    /** "For each port that stores a message and has not stored one in step 2" */
    private static void aNewMessageDoesNotAgeInItsTick() {
        SpanningTreeProtocol x = Lan.row(7, 1);
        x.tick(5);
        CHECK.due("bridge 6 has not heard of bridge 0", x.stored(12, 0), 17);
        for (int tick = 0; tick < 4; tick++) {
            x.tick(1);
            CHECK.due("a lifetime of 1 outlives the tick that brings it", x.stored(12, 0), 0);
            CHECK.due("it is 1", x.stored(12, 4), 1);
        }
    }

    /** "the remaining lifetime is decreased by 1. If it becomes 0, the stored message is lost." */
    private static void theLastTickOfAMessage() {
        SpanningTreeProtocol x = Lan.pair();
        x.tick(1);
        x.setBridge(0, false);
        x.tick(5);
        CHECK.due("1 is left", x.stored(1, 4), 1);
        CHECK.due("it counts still", x.root(1), 0);
        CHECK.due("at its cost", x.rootCost(1), 9);
        x.tick(1);
        for (int what = 0; what <= 4; what++) {
            CHECK.due("lost: " + what, x.stored(1, what), NONE);
        }
        CHECK.due("it counts no more", x.root(1), 17);
        x.tick(1);
        CHECK.due("and stays lost", x.stored(1, 4), NONE);
    }

    /** "The roles are now those that follow from the new stored messages." */
    private static void rolesOfStep4AreTheNewOnes() {
        SpanningTreeProtocol x = Lan.of(Lan.priorities(0, 1), 2,
                new int[][] {{0, 0, 1}, {0, 1, 1}, {1, 0, 1}, {1, 1, 1}});
        CHECK.due("designated before its first tick", x.role(3), DESIGNATED);
        x.tick(1);
        CHECK.due("alternate in it", x.role(3), ALTERNATE);
        CHECK.due("so it never listens", x.state(3), BLOCKING);
        CHECK.due("the root port does", x.state(2), LISTENING);
        x.tick(9);
        x.setBridge(0, false);
        x.tick(5);
        CHECK.due("alternate to the last", x.role(3), ALTERNATE);
        CHECK.due("blocking to the last", x.state(3), BLOCKING);
        x.tick(1);
        CHECK.due("designated in the tick that loses the message", x.role(3), DESIGNATED);
        CHECK.due("listening in the same tick", x.state(3), LISTENING);
    }

    /** "LISTENING with the counter 2 .. LEARNING with the counter 2 .. FORWARDING": 1, 2 and 2 ticks. */
    private static void countersOf2() {
        SpanningTreeProtocol x = Lan.pair();
        int[] due = {LISTENING, LISTENING, LEARNING, LEARNING, FORWARDING, FORWARDING, FORWARDING};
        for (int tick = 0; tick < due.length; tick++) {
            x.tick(1);
            CHECK.due("the designated port after tick " + tick, x.state(0), due[tick]);
            CHECK.due("the root port after tick " + tick, x.state(1), due[tick]);
        }
    }

    /** "Each ALTERNATE or BACKUP port gets the state BLOCKING": from any state; then all counts anew. */
    private static void aCounterStartsAnew() {
        for (int ticks = 1; ticks <= 6; ticks++) {
            SpanningTreeProtocol x = Lan.of(Lan.priorities(9, 0), 1, new int[][] {{0, 0, 1}});
            x.tick(ticks);
            x.addPort(0, 0, 2);
            x.addPort(1, 0, 1);
            x.setCost(0, 50);
            x.tick(1);
            CHECK.due("alternate after " + ticks, x.role(0), ALTERNATE);
            CHECK.due("blocked after " + ticks, x.state(0), BLOCKING);
            x.setCost(0, 1);
            int[] due = {LISTENING, LISTENING, LEARNING, LEARNING, FORWARDING};
            for (int state : due) {
                x.tick(1);
                CHECK.due("anew after " + ticks, x.state(0), state);
            }
        }
        SpanningTreeProtocol y = Lan.of(Lan.priorities(9), 1, new int[][] {{0, 0, 1}, {0, 0, 1}});
        y.setPort(0, false);
        y.tick(7);
        CHECK.due("port 1 alone forwards", y.state(1), FORWARDING);
        y.setPort(0, true);
        y.tick(1);
        CHECK.due("as a backup it is blocked", y.state(1), BLOCKING);
        CHECK.due("it is a backup", y.role(1), BACKUP);
    }

    /** "For each ROOT or DESIGNATED port .. FORWARDING stays": and a change between the two roles is none here. */
    private static void forwardingStays() {
        for (int ticks = 1; ticks <= 6; ticks++) {
            SpanningTreeProtocol x = Lan.of(Lan.priorities(9, 0), 1, new int[][] {{0, 0, 1}});
            int[] due = {LISTENING, LISTENING, LEARNING, LEARNING, FORWARDING, FORWARDING, FORWARDING};
            x.tick(ticks);
            CHECK.due("designated", x.role(0), DESIGNATED);
            x.addPort(1, 0, 1);
            x.tick(1);
            CHECK.due("root", x.role(0), ROOT);
            CHECK.due("its counter goes on after " + ticks, x.state(0), due[ticks]);
        }
    }

    /**
     * "For each ROOT or DESIGNATED port": both roles count in the same way. In Lan.twoRoots() the
     * bridge between the roots hears of the better one in the tick of its distance, in which its
     * two ports exchange their roles, whatever their states are.
     */
    private static void aRoleThatChangesInATick() {
        int[] states = {LISTENING, LISTENING, LEARNING, LEARNING, FORWARDING, FORWARDING, FORWARDING};
        for (int distance = 2; distance <= 6; distance++) {
            SpanningTreeProtocol x = Lan.twoRoots(distance);
            int far = 2 * distance - 1;
            int near = far + 1;
            for (int tick = 1; tick <= states.length; tick++) {
                x.tick(1);
                String when = "root at " + distance + ", tick " + tick;
                boolean heard = tick >= distance;
                CHECK.due(when + ": role towards the better root", x.role(far), heard ? ROOT : DESIGNATED);
                CHECK.due(when + ": role towards the near root", x.role(near), heard ? DESIGNATED : ROOT);
                CHECK.due(when + ": state towards the better root", x.state(far), states[tick - 1]);
                CHECK.due(when + ": state towards the near root", x.state(near), states[tick - 1]);
            }
        }
    }

    /** "BLOCKING becomes LISTENING": also where a tick makes an ALTERNATE the ROOT, or a BACKUP DESIGNATED. */
    private static void aPortThatTakesOverInATick() {
        SpanningTreeProtocol x = Lan.of(Lan.priorities(1, 2), 2,
                new int[][] {{0, 0, 1}, {0, 1, 1}, {1, 0, 1}, {1, 1, 1}});
        SpanningTreeProtocol y = Lan.of(Lan.priorities(1), 1, new int[][] {{0, 0, 1}, {0, 0, 1}});
        x.settle(40);
        y.settle(40);
        x.setPort(0, false);
        y.setPort(0, false);
        int[] states = {BLOCKING, BLOCKING, BLOCKING, BLOCKING, BLOCKING,
            LISTENING, LISTENING, LEARNING, LEARNING, FORWARDING};
        for (int tick = 1; tick <= states.length; tick++) {
            x.tick(1);
            y.tick(1);
            boolean lost = tick >= 6;
            CHECK.due("the alternate in tick " + tick, x.role(3), lost ? ROOT : ALTERNATE);
            CHECK.due("its state in tick " + tick, x.state(3), states[tick - 1]);
            CHECK.due("the former root port in tick " + tick, x.role(2), lost ? DESIGNATED : ROOT);
            CHECK.due("it forwards all the time", x.state(2), FORWARDING);
            CHECK.due("the backup in tick " + tick, y.role(1), lost ? DESIGNATED : BACKUP);
            CHECK.due("the backup's state in tick " + tick, y.state(1), states[tick - 1]);
        }
    }

    /** "The remaining lifetime of each table entry is decreased by 1; an entry whose lifetime becomes 0 is lost." */
    private static void theLastTickOfAnEntry() {
        SpanningTreeProtocol x = Lan.star(2);
        x.tick(5);
        x.send(0, -1);
        for (int tick = 1; tick <= 9; tick++) {
            x.tick(1);
            CHECK.due("after tick " + tick, x.entry(0, 0), 0);
        }
        x.tick(1);
        CHECK.due("after tick 10", x.entry(0, 0), NONE);
        x.send(0, -1);
        x.tick(10);
        CHECK.due("ten ticks at once", x.entry(0, 0), NONE);
    }
}
