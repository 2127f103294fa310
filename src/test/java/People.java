/** Makes objects with people for the tests. */
final class People {
    private People() {
    }

    static MindNet thinking(int... thoughts) {
        MindNet net = new MindNet();
        for (int thought : thoughts) {
            net.one(thought);
        }
        return net;
    }

    /** Each listens to those beside it with weight 1. */
    static MindNet inLine(int... thoughts) {
        MindNet net = thinking(thoughts);
        for (int one = 0; one + 1 < thoughts.length; one++) {
            net.weight(one, one + 1, 1);
            net.weight(one + 1, one, 1);
        }
        return net;
    }

    /** Each gets the same weight for each, itself too. */
    static void weighAll(MindNet net, int weight) {
        for (int one = 0; one < net.told(0); one++) {
            for (int other = 0; other < net.told(0); other++) {
                net.weight(one, other, weight);
            }
        }
    }

    /**
     * One stubborn at 0 and six alike at a thought, of whom only the first listens to it: of rounds that change
     * something there are 298 from 252 on, 299 from 253, 300 from 254 and 301 from 255.
     */
    static MindNet slowing(int thought) {
        MindNet net = thinking(0, thought, thought, thought, thought, thought, thought);
        weighAll(net, 9);
        for (int one = 1; one < 7; one++) {
            net.weight(one, 0, one == 1 ? 1 : 0);
        }
        net.stubborn(0, true);
        return net;
    }

    static void dueThoughts(Due due, String when, MindNet net, int... thoughts) {
        due.is(when + ": people", net.told(0), thoughts.length);
        for (int one = 0; one < thoughts.length; one++) {
            due.is(when + ": thought of " + one, net.about(one, 0), thoughts[one]);
        }
    }
}
