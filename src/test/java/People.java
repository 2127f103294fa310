/** Makes objects with people for the tests. */
final class People {
    private People() {
    }

    static MindNet thinking(int... thoughts) {
        MindNet net = new MindNet();
        for (int thought : thoughts) {
            net.one(thought);
        }
        return net;
    }

    /** Each listens to those beside it with weight 1. */
    static MindNet inLine(int... thoughts) {
        MindNet net = thinking(thoughts);
        for (int one = 0; one + 1 < thoughts.length; one++) {
            net.weight(one, one + 1, 1);
            net.weight(one + 1, one, 1);
        }
        return net;
    }

    /** Each gets the same weight for each, itself too. */
    static void weighAll(MindNet net, int weight) {
        for (int one = 0; one < net.told(0); one++) {
            for (int other = 0; other < net.told(0); other++) {
                net.weight(one, other, weight);
            }
        }
    }

    static void dueThoughts(Due due, String when, MindNet net, int... thoughts) {
        due.is(when + ": people", net.told(0), thoughts.length);
        for (int one = 0; one < thoughts.length; one++) {
            due.is(when + ": thought of " + one, net.about(one, 0), thoughts[one]);
        }
    }
}
