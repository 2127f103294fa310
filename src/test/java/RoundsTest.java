/** Promises 7, 8 and 13: rounds, to settle, and the width of ears. */
public final class RoundsTest {
    private static final Due DUE = new Due("RoundsTest");

    public static void main(String[] args) {
        aRound();
        rounds();
        settle();
        spent();
        width();
        widthRefused();
        DUE.close();
    }

    private static void aRound() {
        MindNet net = People.thinking(10, 20, 40);
        net.weight(0, 1, 2);
        net.weight(0, 2, 4);
        net.weight(1, 0, 1);
        net.weight(1, 1, 0);
        DUE.is("promise 7: one round", net.rounds(1), 1);
        People.dueThoughts(DUE, "promise 7: all at once, cut", net, (10 + 2 * 20 + 4 * 40) / 7, 10, 40);

        MindNet far = People.thinking(10, 20, 40);
        far.weight(0, 1, 1);
        far.weight(0, 2, 1);
        far.ear(10);
        far.rounds(1);
        People.dueThoughts(DUE, "promise 7: only those within its ear", far, 15, 20, 40);

        MindNet deaf = People.thinking(10, 20);
        deaf.weight(0, 0, 0);
        deaf.weight(1, 1, 0);
        deaf.weight(1, 0, 9);
        deaf.ear(9);
        DUE.is("promise 7: with no weights its own stays", deaf.rounds(3), 0);
        People.dueThoughts(DUE, "promise 7: with no weights", deaf, 10, 20);

        MindNet stubborn = People.inLine(0, 500, 1000);
        stubborn.stubborn(0, true);
        stubborn.rounds(1);
        People.dueThoughts(DUE, "promise 7: the stubborn stay", stubborn, 0, 500, 750);
    }

    private static void rounds() {
        MindNet net = People.inLine(0, 1000);
        DUE.is("promise 7: rounds(0)", net.rounds(0), MindNet.OUTSIDE);
        DUE.is("promise 7: rounds(-1)", net.rounds(-1), MindNet.OUTSIDE);
        DUE.is("promise 7: rounds(301)", net.rounds(301), MindNet.OUTSIDE);
        People.dueThoughts(DUE, "promise 7: refused rounds change nothing", net, 0, 1000);
        DUE.is("promise 7: rounds(300) of which one changes", net.rounds(300), 1);
        DUE.is("promise 7: rounds(1) with none", net.rounds(1), 0);
        MindNet swapping = swapping();
        DUE.is("promise 7: rounds(300) that all change", swapping.rounds(300), 300);
        DUE.is("promise 7: rounds(7) that all change", swapping.rounds(7), 7);
        People.dueThoughts(DUE, "promise 7: after 307", swapping, 2, 1);
    }

    private static MindNet swapping() {
        MindNet net = People.inLine(1, 2);
        net.weight(0, 0, 0);
        net.weight(1, 1, 0);
        return net;
    }

    private static void settle() {
        DUE.is("promise 8: one alone", People.thinking(5).settle(), 1);
        MindNet net = People.inLine(0, 1000);
        DUE.is("promise 8: settle()", net.settle(), 2);
        People.dueThoughts(DUE, "promise 8", net, 500, 500);
        DUE.is("promise 8: settle() again", net.settle(), 1);
        MindNet slow = People.thinking(0, 1000);
        slow.weight(1, 0, 1);
        slow.weight(1, 1, 9);
        slow.stubborn(0, true);
        int changing = 0;
        for (int thought = 1000; thought * 9 / 10 != thought; thought = thought * 9 / 10) {
            changing++;
        }
        DUE.is("promise 8: a slow one", slow.settle(), changing + 1);
    }

    private static void spent() {
        MindNet net = swapping();
        net.one(1000);
        net.weight(2, 0, 1);
        net.weight(2, 2, 9);
        DUE.is("promise 8: settle() that does not end", net.settle(), MindNet.SPENT);
        DUE.is("promise 8: all 300 are done", net.about(0, 0), 1);
        DUE.holds("promise 8: the third went on", net.about(2, 0) < 100);
        DUE.is("promise 8: once more by one", net.rounds(1), 1);
        DUE.is("promise 8: swapped", net.about(0, 0), 2);
    }

    private static void width() {
        MindNet net = People.inLine(0, 10, 30, 60);
        net.ear(3);
        DUE.is("promise 13: width(0, 30, 1)", net.width(0, 30, 1), 30);
        DUE.is("promise 13: width(0, 29, 1)", net.width(0, 29, 1), MindNet.NONE);
        DUE.is("promise 13: width(0, 30, 3)", net.width(0, 30, 3), 10);
        DUE.is("promise 13: width(0, 30, 4)", net.width(0, 30, 4), 0);
        DUE.is("promise 13: width(17, 30, 12)", net.width(17, 30, 12), 17);
        DUE.is("promise 13: width(17, 17, 1)", net.width(17, 17, 1), MindNet.NONE);
        DUE.is("promise 13: width(1000, 1000, 1)", net.width(1000, 1000, 1), 1000);
        DUE.is("promise 13: ear stays", net.told(1), 3);
        People.dueThoughts(DUE, "promise 13: thoughts stay", net, 0, 10, 30, 60);
        DUE.is("promise 13: with none at all", new MindNet().width(3, 4, 1), 3);
        DUE.is("promise 13: what is spent does not count", swapping().width(0, 30, 2), 0);
        DUE.is("promise 13: nor where all is spent", swapping().width(1, 30, 2), MindNet.NONE);
        MindNet moving = People.inLine(100, 120, 130);
        DUE.is("promise 13: the first moves too", moving.width(0, 30, 1), 20);
        DUE.is("promise 13: each from thoughts as they are", moving.width(0, 30, 2), 10);
        DUE.is("promise 13: and again", moving.width(0, 30, 1), 20);
        People.dueThoughts(DUE, "promise 13: all thoughts stay", moving, 100, 120, 130);
        MindNet kept = People.thinking(1, 2);
        kept.keep();
        kept.think(0, 50);
        kept.width(0, 30, 1);
        kept.back();
        People.dueThoughts(DUE, "promise 13: what is kept stays", kept, 1, 2);
    }

    private static void widthRefused() {
        MindNet net = People.inLine(0, 10);
        int[][] refused = {{-1, 5, 1}, {5, 4, 1}, {0, 31, 1}, {1001, 1001, 1}, {990, 1001, 1}, {0, 5, 0}, {0, 5, 13},
            {0, 5, -1}, {Integer.MAX_VALUE, Integer.MIN_VALUE, 1}, {Integer.MIN_VALUE, Integer.MAX_VALUE, 1},
            {Integer.MAX_VALUE, Integer.MAX_VALUE, 1}};
        for (int[] row : refused) {
            DUE.is("promise 13: width(" + row[0] + ", " + row[1] + ", " + row[2] + ")",
                net.width(row[0], row[1], row[2]), MindNet.OUTSIDE);
        }
    }
}
