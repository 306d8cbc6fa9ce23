/** All that an object can be made to tell, with what no question shows: used to compare two objects. */
final class Probe {
    private static final int COURSE = 12;

    private Probe() {
    }

    /** What stands now, what follows in the next ticks, and the same for each slot. The object is used up. */
    static String ofAll(SpanningTreeProtocol x) {
        StringBuilder told = new StringBuilder();
        appendNetwork(x, told);
        for (int slot = 0; slot < 2; slot++) {
            int bridges = x.restore(slot);
            told.append(" slot ").append(bridges).append(' ');
            if (bridges >= 0) {
                appendNetwork(x, told);
            }
        }
        return told.toString();
    }

    private static void appendNetwork(SpanningTreeProtocol x, StringBuilder told) {
        told.append(Answers.ofAllQuestions(x));
        appendSettings(x, told);
        for (int tick = 0; tick < COURSE; tick++) {
            told.append(x.tick(1)).append(Answers.ofAllQuestions(x));
        }
        // What is on which segment is told by frames.
        for (int station = 0; station < x.count(3); station++) {
            told.append(x.send(station, -1)).append(Answers.ofAllQuestions(x));
        }
    }

    /** Costs, switches and places are told only by the calls that change them; each is set back. */
    private static void appendSettings(SpanningTreeProtocol x, StringBuilder told) {
        for (int port = 0; port < x.count(2); port++) {
            int cost = x.setCost(port, 1);
            x.setCost(port, cost);
            int up = x.setPort(port, true);
            x.setPort(port, up == 1);
            told.append(cost).append(' ').append(up).append(' ');
        }
        for (int bridge = 0; bridge < x.count(0); bridge++) {
            int up = x.setBridge(bridge, true);
            x.setBridge(bridge, up == 1);
            told.append(up).append(' ');
        }
        for (int station = 0; station < x.count(3); station++) {
            int segment = x.moveStation(station, 0);
            x.moveStation(station, segment);
            told.append(segment).append(' ');
        }
    }
}
