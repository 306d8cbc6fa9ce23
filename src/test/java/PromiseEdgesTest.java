/**
 * The sentences of promises 1 to 28 that bound what is answered, beside the errors (those stand
 * in ErrorOrderTest and RefusedTest): a method for each, which begins with the sentence.
 */
public final class PromiseEdgesTest {
    private static final Check CHECK = new Check();
    private static final int FULL = -6, NOT_SETTLED = -7, NOT_SAVED = -8, NONE = -9;
    private static final int ROOT = 1, DESIGNATED = 2, ALTERNATE = 3;
    private static final int BLOCKING = 1, LISTENING = 2, LEARNING = 3, FORWARDING = 4;

    public static void main(String[] args) {
        p1AnEmptyNetwork();
        p2To5FullAndNotFull();
        p2And6PrioritiesFrom0To15();
        p6StoredMessagesDoNotChange();
        p4And7CostsFrom1To100();
        p8And9OneIfUpBefore();
        p10ThePreviousSegment();
        p11From1To50Ticks();
        p12TheLast8ChangedNothing();
        p12AtMostTheLimit();
        p12ARoleAlone();
        p12AStateAlone();
        p12BackToBlockingAlone();
        p12ChangesBetweenTicks();
        p12NewMessagesWithTheSameRoles();
        p19WhatFrom0To4();
        p20StatesFrom0To4();
        p21VerticesOfParts();
        p22LoopsFrom0();
        p23TheWholeNumber();
        p24TheFrameThatWasSentLast();
        p25NoEntry();
        p26WhatFrom0To4();
        p27OverwritesAndIsComplete();
        p27TransmissionsOfTheLastFrame();
        p28KeepsWhatWasSaved();
        p28SlotsDoNotMeet();
        CHECK.end();
    }

    /** 1: "An empty network at time 0; nothing saved." */
    private static void p1AnEmptyNetwork() {
        SpanningTreeProtocol x = new SpanningTreeProtocol();
        for (int what = 0; what <= 4; what++) {
            CHECK.due("1: count " + what, x.count(what), 0);
            CHECK.due("1: portsIn " + what, x.portsIn(what), 0);
        }
        CHECK.due("1: parts", x.parts(), 0);
        CHECK.due("1: loops", x.loops(), 0);
        CHECK.due("1: slot 0", x.restore(0), NOT_SAVED);
        CHECK.due("1: slot 1", x.restore(1), NOT_SAVED);
        CHECK.due("1: the first tick", x.tick(1), 1);
        CHECK.due("1: an empty network is settled", x.settle(200), 8);
        CHECK.due("1: its time", x.count(4), 9);
        CHECK.due("1: save", x.save(0), 0);
        CHECK.due("1: restore", x.restore(0), 0);
        SpanningTreeProtocol y = Lan.pair();
        y.save(0);
        SpanningTreeProtocol z = new SpanningTreeProtocol();
        CHECK.due("1: another object's bridges", z.count(0), 0);
        CHECK.due("1: another object's slot", z.restore(0), NOT_SAVED);
    }

    /** 2 to 5: "FULL if there are ..": not before, and no more once there is room again. */
    private static void p2To5FullAndNotFull() {
        SpanningTreeProtocol x = new SpanningTreeProtocol();
        x.save(0);
        for (int round = 0; round < 2; round++) {
            for (int bridge = 0; bridge < 8; bridge++) {
                CHECK.due("2: bridge", x.addBridge(bridge), bridge);
            }
            CHECK.due("2: the ninth", x.addBridge(0), FULL);
            for (int segment = 0; segment < 10; segment++) {
                CHECK.due("3: segment", x.addSegment(), segment);
            }
            CHECK.due("3: the eleventh", x.addSegment(), FULL);
            for (int port = 0; port < 24; port++) {
                CHECK.due("4: port", x.addPort(7, 9, 1), port);
            }
            CHECK.due("4: the 25th", x.addPort(7, 9, 1), FULL);
            for (int station = 0; station < 8; station++) {
                CHECK.due("5: station", x.addStation(9), station);
            }
            CHECK.due("5: the ninth", x.addStation(9), FULL);
            x.setBridge(7, false);
            x.setPort(23, false);
            CHECK.due("2: down is there all the same", x.addBridge(0), FULL);
            CHECK.due("4: down is there all the same", x.addPort(0, 0, 1), FULL);
            CHECK.due("28: room again", x.restore(0), 0);
        }
    }

    /** 2, 6: "OUT_OF_RANGE if the priority is not 0 to 15"; 6: "returns the previous one" */
    private static void p2And6PrioritiesFrom0To15() {
        SpanningTreeProtocol x = new SpanningTreeProtocol();
        for (int priority = -2; priority <= 17; priority++) {
            boolean in = priority >= 0 && priority <= 15;
            SpanningTreeProtocol y = new SpanningTreeProtocol();
            CHECK.due("2: " + priority, y.addBridge(priority), in ? 0 : -5);
            CHECK.due("13: " + priority, y.identifier(0), in ? 16 * priority : -1);
        }
        x.addBridge(7);
        int previous = 7;
        for (int priority = -2; priority <= 17; priority++) {
            boolean in = priority >= 0 && priority <= 15;
            CHECK.due("6: " + priority, x.setPriority(0, priority), in ? previous : -5);
            previous = in ? priority : previous;
            CHECK.due("13: after " + priority, x.identifier(0), 16 * previous);
        }
        CHECK.due("6: the same again", x.setPriority(0, 15), 15);
    }

    /** 6: "Stored messages do not change." */
    private static void p6StoredMessagesDoNotChange() {
        SpanningTreeProtocol x = Lan.row(3, 4);
        x.tick(6);
        int[][] before = new int[6][5];
        for (int port = 0; port < 6; port++) {
            for (int what = 0; what <= 4; what++) {
                before[port][what] = x.stored(port, what);
            }
        }
        for (int bridge = 0; bridge < 3; bridge++) {
            x.setPriority(bridge, 15 - bridge);
        }
        for (int port = 0; port < 6; port++) {
            for (int what = 0; what <= 4; what++) {
                CHECK.due("6: stored " + port + " " + what, x.stored(port, what), before[port][what]);
            }
        }
        CHECK.due("6: the root that is gone is the root still", x.root(2), 0);
    }

    /** 4, 7: "OUT_OF_RANGE if the cost is not 1 to 100"; 7: "returns the previous one" */
    private static void p4And7CostsFrom1To100() {
        for (int cost = -1; cost <= 102; cost++) {
            boolean in = cost >= 1 && cost <= 100;
            SpanningTreeProtocol x = Lan.pair();
            CHECK.due("4: " + cost, x.addPort(0, 0, cost), in ? 2 : -5);
            CHECK.due("7: " + cost, x.setCost(1, cost), in ? 9 : -5);
            CHECK.due("7: after " + cost, x.setCost(1, 50), in ? cost : 9);
            CHECK.due("7: of the new port", x.setCost(2, 50), in ? cost : -3);
        }
    }

    /** 8, 9: "returns 1 if it was up before, otherwise 0" */
    private static void p8And9OneIfUpBefore() {
        SpanningTreeProtocol x = Lan.pair();
        boolean[] switches = {true, false, false, true, true, false};
        int[] due = {1, 1, 0, 0, 1, 1};
        for (int i = 0; i < switches.length; i++) {
            CHECK.due("8: " + i, x.setBridge(1, switches[i]), due[i]);
            CHECK.due("9: " + i, x.setPort(0, switches[i]), due[i]);
            CHECK.due("9: with its bridge " + i, x.setPort(1, switches[i]), due[i]);
        }
        CHECK.due("8: the other bridge", x.setBridge(0, true), 1);
    }

    /** 10: "returns the previous segment" */
    private static void p10ThePreviousSegment() {
        SpanningTreeProtocol x = Lan.of(Lan.priorities(), 10, new int[0][]);
        x.addStation(9);
        CHECK.due("10: from the last to the first", x.moveStation(0, 0), 9);
        CHECK.due("10: to the same", x.moveStation(0, 0), 0);
        CHECK.due("10: from the first to the last", x.moveStation(0, 9), 0);
        x.send(0, -1);
        CHECK.due("10: it sends there", x.transmissions(9), 1);
    }

    /** 11: "Makes n ticks; returns the time .. OUT_OF_RANGE if n is not 1 to 50" */
    private static void p11From1To50Ticks() {
        SpanningTreeProtocol x = Lan.pair();
        int time = 0;
        for (int n = -1; n <= 52; n++) {
            boolean in = n >= 1 && n <= 50;
            time += in ? n : 0;
            CHECK.due("11: " + n, x.tick(n), in ? time : -5);
            CHECK.due("26: time after " + n, x.count(4), time);
        }
        for (int n = 1; n <= 12; n++) {
            SpanningTreeProtocol once = Lan.row(4, 3);
            SpanningTreeProtocol many = Lan.row(4, 3);
            once.tick(n);
            for (int i = 0; i < n; i++) {
                many.tick(1);
            }
            CHECK.holds("11: " + n + " at once are " + n + " one by one", Probe.ofAll(once).equals(Probe.ofAll(many)));
        }
    }

    /** 12: "Makes ticks until the last 8 of them changed no role and no state": 8 are never too few. */
    private static void p12TheLast8ChangedNothing() {
        SpanningTreeProtocol x = Lan.pair();
        CHECK.due("12: changes in ticks 1, 3 and 5, then 8 without", x.settle(200), 13);
        CHECK.due("12: no tick more", x.count(4), 13);
        CHECK.due("12: ticks of an earlier call do not count", x.settle(200), 8);
        CHECK.due("12: nor those of tick()", x.tick(50), 71);
        CHECK.due("12: the least limit", x.settle(8), 8);
        CHECK.due("12: the time", x.count(4), 79);
        for (int ticks = 1; ticks <= 6; ticks++) {
            SpanningTreeProtocol y = Lan.pair();
            y.tick(ticks);
            CHECK.due("12: after " + ticks, y.settle(200), Math.max(8, 13 - ticks));
        }
    }

    /** 12: "but at most as many as the limit .. NOT_SETTLED if the limit was reached before" */
    private static void p12AtMostTheLimit() {
        for (int limit = 8; limit <= 15; limit++) {
            SpanningTreeProtocol x = Lan.pair();
            CHECK.due("12: the limit " + limit, x.settle(limit), limit >= 13 ? 13 : NOT_SETTLED);
            CHECK.due("12: its time " + limit, x.count(4), Math.min(limit, 13));
        }
        SpanningTreeProtocol y = Lan.pair();
        CHECK.due("12: 8 ticks, the last 3 without a change", y.settle(8), NOT_SETTLED);
        CHECK.due("12: they do not count in the next call", y.settle(8), 8);
    }

    /** 12: "A tick changes a role if the role of some port after the tick is not its role before": no state does. */
    private static void p12ARoleAlone() {
        SpanningTreeProtocol x = Lan.pair();
        x.settle(40);
        x.setBridge(0, false);
        CHECK.due("12: the role before", x.role(1), ROOT);
        CHECK.due("12: the role changes in the sixth tick", x.settle(200), 6 + 8);
        CHECK.due("12: the role after", x.role(1), DESIGNATED);
        CHECK.due("12: its state all the time", x.state(1), FORWARDING);
        SpanningTreeProtocol y = Lan.pair();
        y.settle(40);
        y.setBridge(0, false);
        CHECK.due("12: one tick too few", y.settle(13), NOT_SETTLED);
    }

    /** 12: ".. and no state of any port": no role does. */
    private static void p12AStateAlone() {
        SpanningTreeProtocol x = Lan.of(Lan.priorities(3), 1, new int[][] {{0, 0, 1}});
        CHECK.due("12: designated all the time", x.role(0), DESIGNATED);
        CHECK.due("12: states change in ticks 1, 3 and 5", x.settle(200), 13);
        CHECK.due("12: designated still", x.role(0), DESIGNATED);
        x.addSegment();
        x.addPort(0, 1, 1);
        CHECK.due("12: of any port", x.settle(200), 13);
    }

    /**
     * 12: ".. and no state of any port": from LISTENING or LEARNING back to BLOCKING too, where no
     * other change follows. Bridge 6 hears of the root at port 12, too late to tell anybody; bridge 7
     * is near the root (port 13), but at a high cost, and tells it on segment 7 (port 14).
     */
    private static void p12BackToBlockingAlone() {
        int[] states = {LISTENING, LISTENING, LEARNING, LEARNING, FORWARDING};
        for (int ticks = 1; ticks <= states.length; ticks++) {
            SpanningTreeProtocol x = Lan.row(6, 1);
            x.addSegment();
            x.addBridge(6);
            x.addBridge(7);
            x.addPort(6, 6, 1);
            x.addPort(7, 1, 100);
            x.addPort(7, 7, 1);
            x.settle(100);
            x.addPort(6, 7, 100);
            x.tick(ticks);
            CHECK.due("12: its state", x.state(15), states[ticks - 1]);
            CHECK.due("12: at the cost 6 to the root it is designated", x.role(15), DESIGNATED);
            x.setCost(12, 100);
            CHECK.due("12: at the cost 105 it is an alternate at once", x.role(15), ALTERNATE);
            CHECK.due("12: the first tick blocks it, and no other changes anything", x.settle(100), 1 + 8);
            CHECK.due("12: it is blocked", x.state(15), BLOCKING);
        }
    }

    /** 12: ".. after the tick is not its role before the tick": what a call changes is no change of a tick. */
    private static void p12ChangesBetweenTicks() {
        SpanningTreeProtocol x = Lan.pair();
        x.settle(40);
        x.setPort(1, false);
        CHECK.due("12: port 1 was switched off before", x.settle(200), 8);
        SpanningTreeProtocol y = Lan.of(Lan.priorities(0, 9), 1, new int[][] {{0, 0, 1}, {1, 0, 1}, {1, 0, 2}});
        y.settle(40);
        y.setPort(1, false);
        CHECK.due("12: port 2 is root at once", y.role(2), ROOT);
        CHECK.due("12: its states change in ticks 1, 3 and 5", y.settle(200), 13);
        y.setPort(1, true);
        y.setPort(1, false);
        CHECK.due("12: on and off again", y.settle(200), 8);
    }

    /** 12: "changed no role and no state": messages and tables may change. */
    private static void p12NewMessagesWithTheSameRoles() {
        SpanningTreeProtocol x = Lan.row(3, 5);
        x.addStation(0);
        x.settle(40);
        x.send(0, -1);
        x.setCost(2, 6);
        CHECK.due("12: a new cost is told", x.settle(200), 8);
        CHECK.due("12: it was told", x.stored(4, 1), 6);
        CHECK.due("12: the entry lives on", x.entry(0, 0), 0);
    }

    /** 19: "what: 0 root, 1 cost, 2 sending bridge (identifier), 3 sending port, 4 remaining lifetime" */
    private static void p19WhatFrom0To4() {
        SpanningTreeProtocol x = Lan.of(Lan.priorities(1, 5, 9), 2,
                new int[][] {{2, 1, 1}, {0, 0, 1}, {1, 0, 33}, {1, 1, 1}});
        x.tick(4);
        int[] due = {-5, 16, 33, 81, 3, 5, -5};
        for (int what = -1; what <= 5; what++) {
            CHECK.due("19: what " + what, x.stored(0, what), due[what + 1]);
        }
        int[] dueAtTheRoot = {-5, NONE, NONE, NONE, NONE, NONE, -5};
        x.setPort(1, false);
        x.setPort(1, true);
        for (int what = -1; what <= 5; what++) {
            CHECK.due("19: nothing stored, what " + what, x.stored(1, what), dueAtTheRoot[what + 1]);
        }
    }

    /** 20: "bit p is set if port p has it; OUT_OF_RANGE if the state is not 0 to 4" */
    private static void p20StatesFrom0To4() {
        SpanningTreeProtocol x = Lan.of(Lan.priorities(0, 1), 1, new int[0][]);
        for (int port = 0; port < 24; port++) {
            x.addPort(port == 0 ? 0 : 1, 0, 1);
        }
        int all = (1 << 24) - 1;
        int[] atFirst = {-5, 0, all, 0, 0, 0, -5};
        for (int state = -1; state <= 5; state++) {
            CHECK.due("20: at first " + state, x.portsIn(state), atFirst[state + 1]);
        }
        x.setBridge(1, false);
        int[] down = {-5, all - 1, 1, 0, 0, 0, -5};
        for (int state = -1; state <= 5; state++) {
            CHECK.due("20: down " + state, x.portsIn(state), down[state + 1]);
        }
        x.setBridge(1, true);
        x.setPort(22, false);
        x.tick(3);
        int[] later = {-5, 1 << 22, all - 3 - (1 << 22), 0, 3, 0, -5};
        for (int state = -1; state <= 5; state++) {
            CHECK.due("20: later " + state, x.portsIn(state), later[state + 1]);
        }
        x.setPort(23, false);
        x.setPort(0, false);
        CHECK.due("20: the first and the last bit", x.portsIn(0), 1 << 23 | 1 << 22 | 1);
    }

    /** 21: "all segments and all bridges that are up are vertices, and every FORWARDING port joins" */
    private static void p21VerticesOfParts() {
        SpanningTreeProtocol x = new SpanningTreeProtocol();
        CHECK.due("21: nothing", x.parts(), 0);
        x.addBridge(1);
        CHECK.due("21: a bridge", x.parts(), 1);
        x.setBridge(0, false);
        CHECK.due("21: a bridge that is down", x.parts(), 0);
        x.addSegment();
        CHECK.due("21: a segment", x.parts(), 1);
        x.setBridge(0, true);
        x.addPort(0, 0, 1);
        CHECK.due("21: both apart", x.parts(), 2);
        int[] due = {2, 2, 2, 2, 1, 1};
        for (int parts : due) {
            x.tick(1);
            CHECK.due("21: joined by a port that forwards, and not before", x.parts(), parts);
        }
        x.setPort(0, false);
        CHECK.due("21: apart at once", x.parts(), 2);
        SpanningTreeProtocol y = Lan.full();
        CHECK.due("21: most of all", y.parts(), 18);
        y.settle(200);
        CHECK.due("21: one of all", y.parts(), 1);
        SpanningTreeProtocol z = Lan.of(Lan.priorities(0, 1, 2, 3), 4,
                new int[][] {{3, 3, 1}, {0, 0, 1}, {2, 3, 1}, {1, 0, 1}});
        z.settle(40);
        CHECK.due("21: two pairs and two segments alone", z.parts(), 4);
        z.addPort(0, 3, 1);
        z.settle(40);
        CHECK.due("21: the pairs joined", z.parts(), 3);
        p21PartsWithLoops();
    }

    /** 21: "every FORWARDING port joins": also one that joins what is joined already. */
    private static void p21PartsWithLoops() {
        SpanningTreeProtocol[] loops = {Loops.behindARow(), Loops.onTheFirstSegments()};
        for (SpanningTreeProtocol x : loops) {
            x.settle(100);
            CHECK.due("21: one part with three loops", x.parts(), 1);
            CHECK.due("22: three loops", x.loops(), 3);
            x.setPort(11, false);
            CHECK.due("21: the row and the loops apart", x.parts(), 2);
            CHECK.due("22: three loops still", x.loops(), 3);
        }
    }

    /** 22: "the number of FORWARDING ports, minus the number of vertices .., plus the number of parts" */
    private static void p22LoopsFrom0() {
        SpanningTreeProtocol x = new SpanningTreeProtocol();
        CHECK.due("22: nothing", x.loops(), 0);
        x.addBridge(1);
        x.addSegment();
        CHECK.due("22: nothing joined", x.loops(), 0);
        SpanningTreeProtocol y = Loops.behindARow();
        y.settle(100);
        CHECK.due("22: two bridges over four segments", y.loops(), 3);
        int[] due = {2, 1, 0, 0};
        for (int i = 0; i < due.length; i++) {
            y.setPort(16 + i, false);
            CHECK.due("22: one port fewer", y.loops(), due[i]);
            CHECK.due("21: bridge 7 is cut off with its last port", y.parts(), i < 3 ? 1 : 2);
        }
        y.setBridge(7, false);
        CHECK.due("22: a bridge that is down is no vertex", y.loops(), 0);
        SpanningTreeProtocol z = Loops.behindARow();
        z.settle(100);
        z.setBridge(6, false);
        CHECK.due("22: no loop without bridge 6", z.loops(), 0);
        CHECK.due("21: two parts without it", z.parts(), 2);
    }

    /** 23: "Returns the number of transmissions": the sum over all segments, from 1 to 64. */
    private static void p23TheWholeNumber() {
        SpanningTreeProtocol x = Lan.full();
        for (int round = 0; round < 30; round++) {
            x.tick(1);
            int made = x.send(round % 8, round % 9 - 1);
            int sum = 0;
            for (int segment = 0; segment < 10; segment++) {
                sum += x.transmissions(segment);
            }
            CHECK.due("23: round " + round, made, sum);
            CHECK.holds("23: 1 to 64: " + made, made >= 1 && made <= 64);
        }
    }

    /** 24: "how often the frame that was sent last was transmitted on a segment, 0 if no frame was sent" */
    private static void p24TheFrameThatWasSentLast() {
        SpanningTreeProtocol x = Lan.star(3);
        for (int segment = 0; segment < 3; segment++) {
            CHECK.due("24: no frame", x.transmissions(segment), 0);
        }
        x.tick(5);
        x.send(0, -1);
        for (int segment = 0; segment < 3; segment++) {
            CHECK.due("24: to all", x.transmissions(segment), 1);
        }
        x.send(1, 0);
        CHECK.due("24: the next frame, on 0", x.transmissions(0), 1);
        CHECK.due("24: the next frame, on 1", x.transmissions(1), 1);
        CHECK.due("24: the next frame, not on 2", x.transmissions(2), 0);
        x.send(3, 0);
        x.send(2, 3);
        CHECK.due("24: a refused frame is not the last, on 2", x.transmissions(2), 0);
        CHECK.due("24: a refused frame is not the last, on 0", x.transmissions(0), 1);
        x.tick(30);
        x.setBridge(0, false);
        x.moveStation(1, 2);
        x.addSegment();
        CHECK.due("24: nothing but a frame changes it", x.transmissions(1), 1);
        CHECK.due("24: a new segment", x.transmissions(3), 0);
    }

    /** 25: "NONE if there is no entry": before, after, and for a bridge without ports. */
    private static void p25NoEntry() {
        SpanningTreeProtocol x = Lan.star(2);
        x.addBridge(9);
        CHECK.due("25: nothing learned", x.entry(0, 0), NONE);
        x.tick(5);
        x.send(1, 0);
        CHECK.due("25: port 1", x.entry(0, 1), 1);
        CHECK.due("25: the addressee is not learned", x.entry(0, 0), NONE);
        CHECK.due("25: a bridge without ports", x.entry(1, 1), NONE);
        x.send(0, 1);
        CHECK.due("25: port 0 is an entry like any", x.entry(0, 0), 0);
        x.addStation(0);
        CHECK.due("25: a new station", x.entry(0, 2), NONE);
    }

    /** 26: "0 bridges, 1 segments, 2 ports, 3 stations, 4 the time; OUT_OF_RANGE for any other what" */
    private static void p26WhatFrom0To4() {
        SpanningTreeProtocol x = Lan.of(Lan.priorities(1, 1, 1), 4, new int[][] {{0, 0, 1}, {2, 3, 1}});
        x.addStation(0);
        x.tick(6);
        int[] due = {-5, -5, 3, 4, 2, 1, 6, -5, -5};
        for (int what = -2; what <= 6; what++) {
            CHECK.due("26: what " + what, x.count(what), due[what + 2]);
        }
        x.setBridge(0, false);
        x.setPort(1, false);
        CHECK.due("26: bridges that are down count", x.count(0), 3);
        CHECK.due("26: ports that are down count", x.count(2), 2);
    }

    /** 27: "Saves the complete network, including time and transmissions .., and overwrites what was saved there" */
    private static void p27OverwritesAndIsComplete() {
        SpanningTreeProtocol x = Lan.fillUp(savedWhenEmpty());
        SpanningTreeProtocol twin = Lan.fillUp(savedWhenEmpty());
        for (SpanningTreeProtocol one : new SpanningTreeProtocol[] {x, twin}) {
            one.settle(200);
            one.setPort(3, false);
            one.setBridge(5, false);
            one.setCost(9, 77);
            one.moveStation(2, 0);
            one.send(1, -1);
            one.tick(3);
            one.send(4, 1);
            one.setPort(3, true);
            one.tick(2);
        }
        CHECK.due("27: save", x.save(0), 8);
        CHECK.due("27: save of the twin", twin.save(0), 8);
        String saved = Answers.ofAllQuestions(x);
        x.restore(1);
        makeAnotherFullNetwork(x);
        CHECK.due("28: restore over another network", x.restore(0), 8);
        CHECK.holds("28: nothing of the other network is left", saved.equals(Answers.ofAllQuestions(x)));
        x.setBridge(5, true);
        x.setPort(0, false);
        x.setCost(9, 1);
        x.setPriority(1, 1);
        x.moveStation(2, 9);
        x.send(3, -1);
        x.tick(50);
        CHECK.due("28: restore", x.restore(0), 8);
        CHECK.holds("27: all is as it was saved", Probe.ofAll(x).equals(Probe.ofAll(twin)));
        SpanningTreeProtocol y = new SpanningTreeProtocol();
        y.addBridge(4);
        CHECK.due("27: one bridge", y.save(1), 1);
        y.addBridge(5);
        y.tick(1);
        CHECK.due("27: two over one", y.save(1), 2);
        y.addBridge(6);
        CHECK.due("28: the last one saved", y.restore(1), 2);
        CHECK.due("28: its time", y.count(4), 1);
        CHECK.due("28: its third bridge", y.identifier(2), -1);
    }

    private static SpanningTreeProtocol savedWhenEmpty() {
        SpanningTreeProtocol x = new SpanningTreeProtocol();
        x.save(1);
        return x;
    }

    /** With every number another than in Lan.full(). */
    private static void makeAnotherFullNetwork(SpanningTreeProtocol x) {
        for (int bridge = 0; bridge < 8; bridge++) {
            x.addBridge(bridge);
        }
        for (int segment = 0; segment < 10; segment++) {
            x.addSegment();
        }
        for (int port = 0; port < 24; port++) {
            x.addPort(7 - port % 8, (port + port / 8 + 5) % 10, 100 - port);
        }
        for (int station = 0; station < 8; station++) {
            x.addStation(station);
        }
        x.settle(200);
        for (int station = 0; station < 8; station++) {
            x.send(station, -1);
        }
    }

    /** 27: "including .. transmissions of the last frame" */
    private static void p27TransmissionsOfTheLastFrame() {
        SpanningTreeProtocol x = Lan.star(3);
        x.tick(5);
        x.save(0);
        x.send(0, -1);
        x.save(1);
        x.send(1, 0);
        CHECK.due("27: the last frame, on 2", x.transmissions(2), 0);
        x.restore(1);
        for (int segment = 0; segment < 3; segment++) {
            CHECK.due("27: the saved frame, on " + segment, x.transmissions(segment), 1);
        }
        x.restore(0);
        for (int segment = 0; segment < 3; segment++) {
            CHECK.due("27: saved when no frame was sent, on " + segment, x.transmissions(segment), 0);
        }
    }

    /** 28: "Restores what was saved last in a slot, which keeps it" */
    private static void p28KeepsWhatWasSaved() {
        SpanningTreeProtocol x = Lan.star(2);
        x.tick(5);
        x.send(0, -1);
        x.save(1);
        String saved = Answers.ofAllQuestions(x);
        for (int round = 0; round < 3; round++) {
            x.tick(10);
            x.addBridge(0);
            x.addPort(1, 0, 1);
            x.send(1, 0);
            x.setPort(0, false);
            x.moveStation(0, 1);
            CHECK.due("28: round " + round, x.restore(1), 1);
            CHECK.holds("28: as saved, round " + round, saved.equals(Answers.ofAllQuestions(x)));
        }
        CHECK.due("28: twice in a row", x.restore(1), 1);
        CHECK.due("28: the time goes on from there", x.tick(1), 6);
        CHECK.due("28: the other slot is empty still", x.restore(0), NOT_SAVED);
        CHECK.due("28: and that changes nothing", x.count(4), 6);
    }

    /** 27, 28: "in a slot (0 or 1)": two networks, neither of which knows of the other. */
    private static void p28SlotsDoNotMeet() {
        SpanningTreeProtocol x = new SpanningTreeProtocol();
        x.save(1);
        x.addBridge(1);
        x.addSegment();
        x.addPort(0, 0, 1);
        x.tick(1);
        x.save(0);
        CHECK.due("28: slot 1 is empty", x.restore(1), 0);
        CHECK.due("28: no ports", x.count(2), 0);
        CHECK.due("28: slot 0 has a bridge", x.restore(0), 1);
        CHECK.due("28: its port", x.state(0), LISTENING);
        CHECK.due("28: its time", x.count(4), 1);
        x.tick(1);
        x.save(1);
        x.restore(0);
        CHECK.due("28: slot 0 is not touched by slot 1", x.count(4), 1);
        x.restore(1);
        CHECK.due("28: slot 1 is the newer one", x.count(4), 2);
        x.tick(1);
        CHECK.due("28: the counter came with it", x.state(0), 3);
    }
}
