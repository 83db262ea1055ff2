/** Counts the answers that are not the ones that are due; a boolean counts 1 or 0. */
final class Check {
    private int wrong = 0;

    void due(String call, int got, int want) {
        if (got != want) {
            wrong++;
            System.out.println(call + " answered " + got + ", due is " + want);
        }
    }

    void due(String call, boolean got, boolean want) {
        due(call, got ? 1 : 0, want ? 1 : 0);
    }

    /**
     * Makes the calls of a run on a new object, each with the answer that is due. The first row has
     * the numbers of the constructor, the others are like "wire 0 4 1 = 0"; a row may hold several
     * calls, with ";" between them. Where no answer stands it is not looked at. MIN and MAX are the
     * least and the greatest int.
     */
    void run(String title, String limits, String... rows) {
        CampusNet net = made(limits);
        int count = 0;
        for (String row : rows) {
            for (String call : row.split(";")) {
                count++;
                String[] sides = call.split("=");
                int got = answerOf(net, sides[0].trim());
                if (sides.length > 1) {
                    String label = title + ", call " + count + ": " + sides[0].trim();
                    due(label, got, number(sides[1].trim()));
                }
            }
        }
    }

    /** Each call is refused in a run of its own, and what comes after it goes as if it hadn't been. */
    void refusals(String title, String before, String after, String... calls) {
        for (String call : calls) {
            run(title + ", " + call, "6 1 5", before, call, after);
        }
    }

    static CampusNet made(String limits) {
        int[] a = numbers(limits.split(" "), 0);
        return new CampusNet(a[0], a[1], a[2]);
    }

    void end() {
        if (wrong != 0) {
            System.out.println(wrong + " answers are not as due");
            System.exit(1);
        }
    }

    private static int[] numbers(String[] words, int first) {
        int[] numbers = new int[words.length - first];
        for (int i = first; i < words.length; i++) {
            numbers[i - first] = number(words[i]);
        }
        return numbers;
    }

    private static int number(String word) {
        switch (word) {
            case "MIN": return Integer.MIN_VALUE;
            case "MAX": return Integer.MAX_VALUE;
            default: return Integer.parseInt(word);
        }
    }

    static int answerOf(CampusNet net, String call) {
        String[] words = call.split(" ");
        int[] a = numbers(words, 1);
        switch (words[0]) {
            case "bridge": return net.bridge(a[0]);
            case "wire": return net.wire(a[0], a[1], a[2]);
            case "host": return net.host(a[0], a[1]);
            case "router": return net.router(a[0]) ? 1 : 0;
            case "access": return net.access(a[0], a[1]) ? 1 : 0;
            case "trunk": return net.trunk(a[0], a[1], a[2]) ? 1 : 0;
            case "cut": return net.cut(a[0], a[1] == 1) ? 1 : 0;
            case "tick": return net.tick(a[0]);
            case "role": return net.role(a[0]);
            case "state": return net.state(a[0]);
            case "root": return net.root(a[0]);
            case "held": return net.held(a[0], a[1]);
            case "learned": return net.learned(a[0], a[1], a[2]);
            case "entries": return net.entries(a[0]);
            case "send": return net.send(a[0], a[1]);
            case "ask": return net.ask(a[0], a[1], a[2]);
            case "answer": return net.answer();
            case "crossings": return net.crossings();
            default: throw new IllegalArgumentException(call);
        }
    }
}
