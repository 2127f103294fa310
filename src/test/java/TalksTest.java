/** Promises 19 to 21: talks, the fewest, and kinds of thoughts that were found. */
public final class TalksTest {
    private static final Due DUE = new Due("TalksTest");

    public static void main(String[] args) {
        talk();
        fewest();
        fewestRefused();
        found();
        DUE.close();
    }

    private static void talk() {
        MindNet net = People.thinking(3, 8, 8);
        DUE.is("promise 19: talk(0, 1)", net.talk(0, 1), 5);
        People.dueThoughts(DUE, "promise 19: the lesser has the cut half", net, 5, 6, 8);
        DUE.is("promise 19: talk(2, 1)", net.talk(2, 1), 2);
        People.dueThoughts(DUE, "promise 19: even", net, 5, 7, 7);
        DUE.is("promise 19: talk(1, 2) of two alike", net.talk(1, 2), 0);
        net.stubborn(1, true);
        net.ear(0);
        net.think(1, 1000);
        DUE.is("promise 19: stubborn ones talk too", net.talk(1, 0), 995);
        People.dueThoughts(DUE, "promise 19: the greater is named first", net, 502, 503, 7);
        int[][] unknown = {{0, 0}, {0, 3}, {3, 0}, {-1, 0}, {0, -1}, {5, 5}};
        for (int[] pair : unknown) {
            DUE.is("promise 19: unknown", net.talk(pair[0], pair[1]), MindNet.UNKNOWN);
        }
        People.dueThoughts(DUE, "promise 19: refused talks change nothing", net, 502, 503, 7);
    }

    private static void dueFewest(String when, MindNet net, int n, int d, int talks, int kinds) {
        DUE.is("promise 20: " + when + ": fewest(" + n + ", " + d + ")", net.fewest(n, d), talks);
        DUE.is("promise 21: " + when + ": found()", net.found(), kinds);
    }

    private static void fewest() {
        MindNet net = People.thinking(0, 10, 20, 35);
        dueFewest("as near already", net, 2, 10, 0, 1);
        dueFewest("one talk", net, 2, 9, 1, 2);
        dueFewest("the second pair", net, 3, 1, 1, 3);
        dueFewest("four talks", net, 4, 1, 4, 184);
        dueFewest("too many kinds", net, 4, 0, MindNet.SPENT, 500);
        People.dueThoughts(DUE, "promise 20: thoughts stay", net, 0, 10, 20, 35);
        net.stubborn(0, true);
        net.ear(0);
        dueFewest("stubborn ones talk too", net, 2, 0, 1, 2);
        MindNet odd = People.thinking(0, 1, 7);
        dueFewest("an odd sum never meets", odd, 2, 0, MindNet.NONE, 1);
        MindNet turned = People.thinking(8, 3, 0);
        // (8, 3) to (6, 5), from where a talk leaves all as it is.
        dueFewest("the greater first", turned, 2, 0, MindNet.NONE, 2);
        dueFewest("the greater first, near enough", turned, 2, 1, 1, 2);
        MindNet most = People.thinking(1000, 1000, 1000, 1000);
        dueFewest("all alike", most, 4, 0, 0, 1);
        most.think(0, 0);
        // To (500, 500, 1000, 1000), then each of the lesser with one of the greater.
        DUE.is("promise 20: greatest thoughts", most.fewest(4, 0), 3);
        DUE.is("promise 20: greatest thoughts, near enough", most.fewest(4, 500), 1);
    }

    private static void fewestRefused() {
        MindNet net = People.thinking(0, 10);
        DUE.is("promise 20: fewest(2, 0)", net.fewest(2, 0), 1);
        int[][] outside = {{1, 0}, {5, 0}, {0, 0}, {-1, 0}, {2, -1}, {2, 1001}, {4, 1001}};
        for (int[] row : outside) {
            DUE.is("promise 20: fewest(" + row[0] + ", " + row[1] + ")", net.fewest(row[0], row[1]), MindNet.OUTSIDE);
        }
        DUE.is("promise 20: fewest(3, 0)", net.fewest(3, 0), MindNet.UNKNOWN);
        DUE.is("promise 21: refused calls change nothing", net.found(), 2);
    }

    private static void found() {
        MindNet net = People.thinking(1000, 0, 777, 1);
        DUE.is("promise 21: at first", net.found(), 0);
        dueFewest("spent", net, 4, 0, MindNet.SPENT, 500);
        dueFewest("three talks", net, 4, 1, 3, 54);
        dueFewest("of two", net, 2, 1000, 0, 1);
        net.talk(0, 1);
        net.think(0, 5);
        DUE.is("promise 21: of the latest", net.found(), 1);
    }
}
