/** The answers of an object to every question that changes nothing, in one text. */
final class Answers {
    private Answers() {
    }

    static String ofAllQuestions(SpanningTreeProtocol x) {
        StringBuilder answers = new StringBuilder();
        for (int what = -1; what <= 5; what++) {
            answers.append(x.count(what)).append(' ').append(x.portsIn(what)).append(' ');
        }
        answers.append(x.parts()).append(' ').append(x.loops()).append(" | ");
        for (int bridge = -1; bridge <= 8; bridge++) {
            answers.append(x.identifier(bridge)).append(' ').append(x.root(bridge)).append(' ');
            answers.append(x.rootCost(bridge)).append(' ').append(x.rootPort(bridge)).append(' ');
            for (int station = -1; station <= 8; station++) {
                answers.append(x.entry(bridge, station)).append(' ');
            }
        }
        answers.append("| ");
        for (int port = -1; port <= 24; port++) {
            answers.append(x.role(port)).append(' ').append(x.state(port)).append(' ');
            for (int what = -1; what <= 5; what++) {
                answers.append(x.stored(port, what)).append(' ');
            }
        }
        answers.append("| ");
        for (int segment = -1; segment <= 10; segment++) {
            answers.append(x.transmissions(segment)).append(' ');
        }
        return answers.toString();
    }
}
