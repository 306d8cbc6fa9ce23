/** Promises 26 to 28: counts, save and restore. */
public final class SavingTest {
    private static final Check CHECK = new Check();

    public static void main(String[] args) {
        promise26Count();
        promise27And28Errors();
        promise28RestoresAll();
        promise28GoesOnTheSameWay();
        promise28SlotsAreApart();
        promise28OverAnotherNetwork();
        CHECK.end();
    }

    private static SpanningTreeProtocol sample() {
        return sampleInto(new SpanningTreeProtocol());
    }

    private static SpanningTreeProtocol sampleInto(SpanningTreeProtocol x) {
        x.addBridge(1);
        x.addBridge(2);
        x.addSegment();
        x.addSegment();
        x.addPort(0, 0, 10);
        x.addPort(0, 1, 20);
        x.addPort(1, 0, 30);
        x.addPort(1, 1, 40);
        x.addStation(0);
        x.addStation(1);
        return x;
    }

    private static void promise26Count() {
        SpanningTreeProtocol x = sample();
        x.addSegment();
        x.addStation(2);
        x.addStation(2);
        x.addStation(2);
        x.tick(17);
        CHECK.due("p26 bridges", x.count(0), 2);
        CHECK.due("p26 segments", x.count(1), 3);
        CHECK.due("p26 ports", x.count(2), 4);
        CHECK.due("p26 stations", x.count(3), 5);
        CHECK.due("p26 time", x.count(4), 17);
        int[] wrong = {-1, 5, Integer.MIN_VALUE, Integer.MAX_VALUE};
        for (int what : wrong) {
            CHECK.due("p26 " + what, x.count(what), SpanningTreeProtocol.OUT_OF_RANGE);
        }
    }

    private static void promise27And28Errors() {
        SpanningTreeProtocol x = sample();
        int[] wrong = {-1, 2, Integer.MIN_VALUE, Integer.MAX_VALUE};
        for (int slot : wrong) {
            CHECK.due("p27 " + slot, x.save(slot), SpanningTreeProtocol.OUT_OF_RANGE);
            CHECK.due("p28 " + slot, x.restore(slot), SpanningTreeProtocol.OUT_OF_RANGE);
        }
        CHECK.due("p28 nothing in 0", x.restore(0), SpanningTreeProtocol.NOT_SAVED);
        CHECK.due("p28 nothing in 1", x.restore(1), SpanningTreeProtocol.NOT_SAVED);
        CHECK.due("p27 1", x.save(1), 2);
        CHECK.due("p28 still nothing in 0", x.restore(0), SpanningTreeProtocol.NOT_SAVED);
        CHECK.due("p28 1", x.restore(1), 2);
        CHECK.due("p28 an empty network", new SpanningTreeProtocol().restore(0), SpanningTreeProtocol.NOT_SAVED);
        CHECK.due("p27 an empty network", new SpanningTreeProtocol().save(0), 0);
    }

    private static void promise28RestoresAll() {
        SpanningTreeProtocol x = sample();
        x.settle(40);
        x.send(0, -1);
        x.save(0);
        String before = Answers.ofAllQuestions(x);
        x.addBridge(0);
        x.addSegment();
        x.addPort(2, 2, 3);
        x.addPort(2, 0, 3);
        x.addStation(2);
        x.setPriority(0, 9);
        x.setCost(2, 99);
        x.setPort(1, false);
        x.setBridge(1, false);
        x.moveStation(0, 1);
        x.tick(13);
        x.send(1, 0);
        x.send(2, 0);
        CHECK.holds("p28 there is a difference", !before.equals(Answers.ofAllQuestions(x)));
        CHECK.due("p28 the saved number of bridges", x.restore(0), 2);
        CHECK.holds("p28 all is as before", before.equals(Answers.ofAllQuestions(x)));
        CHECK.due("p28 the saved cost", x.setCost(2, 1), 30);
        CHECK.due("p28 the saved priority", x.setPriority(0, 4), 1);
        CHECK.due("p28 the saved port is up", x.setPort(1, false), 1);
        CHECK.due("p28 the saved bridge is up", x.setBridge(1, false), 1);
        CHECK.due("p28 the saved station", x.moveStation(0, 1), 0);
        x.tick(3);
        CHECK.due("p28 the slot keeps it", x.restore(0), 2);
        CHECK.holds("p28 all is as before again", before.equals(Answers.ofAllQuestions(x)));
        thingsAddedAfterARestoreAreNew(x);
    }

    /** Numbers that were taken when the network was larger carry nothing over. */
    private static void thingsAddedAfterARestoreAreNew(SpanningTreeProtocol x) {
        CHECK.due("p28 a new bridge", x.addBridge(7), 2);
        CHECK.due("p28 a new segment", x.addSegment(), 2);
        CHECK.due("p28 a new port", x.addPort(2, 2, 8), 4);
        CHECK.due("p28 a new station", x.addStation(2), 2);
        CHECK.due("p28 its bridge", x.root(2), 7 * 16 + 2);
        CHECK.due("p28 its segment", x.transmissions(2), 0);
        CHECK.due("p28 its port's state", x.state(4), SpanningTreeProtocol.BLOCKING);
        CHECK.due("p28 its port's message", x.stored(4, 0), SpanningTreeProtocol.NONE);
        for (int bridge = 0; bridge < 3; bridge++) {
            CHECK.due("p28 its station's entry", x.entry(bridge, 2), SpanningTreeProtocol.NONE);
        }
    }

    /** Counters and lifetimes are saved too: what follows a restore is what followed the save. */
    private static void promise28GoesOnTheSameWay() {
        for (int start = 1; start <= 12; start++) {
            SpanningTreeProtocol x = sample();
            x.tick(start);
            x.send(1, -1);
            x.setPort(1, start % 3 != 0);
            x.save(1);
            String first = courseOf(x);
            x.restore(1);
            String second = courseOf(x);
            CHECK.holds("p28 the same course from " + start, first.equals(second));
        }
    }

    private static String courseOf(SpanningTreeProtocol x) {
        StringBuilder course = new StringBuilder();
        for (int step = 0; step < 12; step++) {
            course.append(x.tick(1)).append(Answers.ofAllQuestions(x));
        }
        return course.toString();
    }

    private static void promise28SlotsAreApart() {
        SpanningTreeProtocol x = new SpanningTreeProtocol();
        x.save(0);
        x.addBridge(1);
        x.save(1);
        x.addBridge(1);
        CHECK.due("p28 slot 0", x.restore(0), 0);
        CHECK.due("p28 count of slot 0", x.count(0), 0);
        CHECK.due("p28 slot 1", x.restore(1), 1);
        x.addBridge(1);
        x.addBridge(1);
        CHECK.due("p27 overwrites", x.save(0), 3);
        x.restore(1);
        CHECK.due("p28 slot 1 is as it was", x.count(0), 1);
        CHECK.due("p28 slot 0 is the newer one", x.restore(0), 3);
        x.setPriority(0, 5);
        CHECK.due("p28 changes do not reach the slot", x.restore(0), 3);
        CHECK.due("p28 the saved priority", x.identifier(0), 16);
    }

    /** Where there was a wholly other network, nothing of it is left. */
    private static void promise28OverAnotherNetwork() {
        SpanningTreeProtocol x = new SpanningTreeProtocol();
        x.save(0);
        sampleInto(x);
        x.settle(40);
        x.send(0, -1);
        x.send(1, -1);
        x.save(1);
        String before = Answers.ofAllQuestions(x);
        String course = courseOf(x);
        CHECK.due("p28 the empty network", x.restore(0), 0);
        CHECK.due("p28 it is empty", x.count(2), 0);
        x.addBridge(5);
        x.addBridge(4);
        x.addBridge(3);
        x.addSegment();
        x.addSegment();
        x.addPort(2, 1, 9);
        x.addPort(1, 1, 9);
        x.addPort(0, 1, 9);
        x.addPort(0, 0, 9);
        x.addStation(1);
        x.addStation(0);
        x.settle(50);
        x.send(0, -1);
        x.send(1, -1);
        CHECK.due("p28 back to the first one", x.restore(1), 2);
        CHECK.holds("p28 all of it is back", before.equals(Answers.ofAllQuestions(x)));
        CHECK.holds("p28 and goes the same way", course.equals(courseOf(x)));
    }
}
