/** Promises 17 and 18: rest beside stubborn ones, and the pull of one more. */
public final class RestTest {
    private static final Due DUE = new Due("RestTest");
    private static final long LOST_UNKNOWN = -1000000000000000001L;
    private static final long LOST_OUTSIDE = -1000000000000000002L;
    private static final long LOST_NO = -1000000000000000005L;

    public static void main(String[] args) {
        restInLine();
        restOfSix();
        whenRestIsTold();
        restRefused();
        pull();
        pullOfSeveral();
        pullByParts();
        pullRefused();
        DUE.close();
    }

    private static void dueRest(String when, MindNet net, int one, long upper, long lower) {
        DUE.is(when + ": rest(" + one + ", 0)", net.rest(one, 0), upper);
        DUE.is(when + ": rest(" + one + ", 1)", net.rest(one, 1), lower);
    }

    private static void restInLine() {
        MindNet net = People.inLine(0, 1, 2, 1000);
        net.stubborn(0, true);
        net.stubborn(3, true);
        net.ear(0);
        dueRest("promise 17: of a stubborn one", net, 0, 0, 1);
        dueRest("promise 17: a third of the way", net, 1, 1000, 3);
        dueRest("promise 17: two thirds of the way", net, 2, 2000, 3);
        dueRest("promise 17: of a stubborn one", net, 3, 1000, 1);
        net.weight(1, 1, 9);
        dueRest("promise 17: its own weight does not matter", net, 1, 1000, 3);
        net.weight(1, 1, 0);
        dueRest("promise 17: nor that there is none", net, 1, 1000, 3);
        net.weight(1, 0, 3);
        dueRest("promise 17: weights matter", net, 1, 1000, 7);
        dueRest("promise 17: weights matter", net, 2, 4000, 7);
        net.think(3, 700);
        dueRest("promise 17: in lowest terms", net, 1, 100, 1);
        dueRest("promise 17: in lowest terms", net, 2, 400, 1);
        People.dueThoughts(DUE, "promise 17: thoughts stay", net, 0, 1, 2, 700);
    }

    /** Greatest weights among the most people: what is worked with is longest here. */
    private static void restOfSix() {
        MindNet net = People.thinking(0, 0, 0, 0, 0, 0, 1000, 1000, 1000, 1000, 1000, 999);
        People.weighAll(net, 9);
        for (int one = 6; one < 12; one++) {
            net.stubborn(one, true);
        }
        for (int one = 0; one < 6; one++) {
            dueRest("promise 17: six beside six", net, one, 5999, 6);
        }
        DUE.is("promise 18: six alike", net.pull(1000), 0);
        net.weight(4, 5, 8);
        DUE.is("promise 18: less is heard of 5", net.pull(1000), 0);
        DUE.is("promise 18: one that is heard less pulls down less", net.pull(0), 5);
        net.weight(2, 0, 8);
        DUE.is("promise 18: less is heard of 0 too", net.pull(1000), 1);
    }

    private static void whenRestIsTold() {
        MindNet net = People.inLine(1, 2, 3, 4, 5, 6, 7, 8);
        DUE.is("promise 17: none is stubborn", net.rest(0, 0), LOST_NO);
        net.stubborn(0, true);
        DUE.is("promise 17: seven move", net.rest(0, 0), LOST_NO);
        net.stubborn(7, true);
        dueRest("promise 17: six move", net, 3, 4, 1);
        for (int one = 1; one < 6; one++) {
            net.stubborn(one, true);
        }
        dueRest("promise 17: one moves", net, 6, 7, 1);
        net.stubborn(6, true);
        DUE.is("promise 17: none moves", net.rest(6, 0), LOST_NO);

        MindNet apart = People.thinking(0, 10, 20, 30);
        apart.stubborn(0, true);
        apart.stubborn(3, true);
        apart.weight(1, 0, 1);
        DUE.is("promise 17: nobody leads to 2", apart.rest(1, 0), LOST_NO);
        apart.weight(2, 3, 1);
        dueRest("promise 17: each is led by another stubborn one", apart, 1, 0, 1);
        dueRest("promise 17: each is led by another stubborn one", apart, 2, 30, 1);
        apart.stubborn(0, false);
        DUE.is("promise 17: nobody leads to 0", apart.rest(2, 0), LOST_NO);
        apart.stubborn(0, true);
        apart.weight(1, 0, 0);
        apart.weight(0, 1, 1);
        DUE.is("promise 17: 1 leads but is not led", apart.rest(2, 0), LOST_NO);
    }

    private static void restRefused() {
        MindNet net = People.inLine(0, 900);
        DUE.is("promise 17: rest(2, 9)", net.rest(2, 9), LOST_UNKNOWN);
        DUE.is("promise 17: rest(-1, 0)", net.rest(-1, 0), LOST_UNKNOWN);
        DUE.is("promise 17: rest(0, 2)", net.rest(0, 2), LOST_OUTSIDE);
        DUE.is("promise 17: rest(0, -1)", net.rest(0, -1), LOST_OUTSIDE);
        DUE.is("promise 17: rest(0, 0)", net.rest(0, 0), LOST_NO);
    }

    private static void pull() {
        MindNet net = People.inLine(0, 5, 5, 5, 5);
        net.stubborn(0, true);
        DUE.is("promise 18: the second holds all behind it", net.pull(1000), 1);
        net.weight(4, 0, 9);
        // Held at 1000 the last one has 750, 500 and 250 beside it: 2500; the third has 1000 + 667 + 333 + 100.
        DUE.is("promise 18: now the last", net.pull(1000), 4);
        DUE.is("promise 18: at 0 all are alike", net.pull(0), 1);
        DUE.is("promise 18: nobody got stubborn", net.told(6), 1);
        People.dueThoughts(DUE, "promise 18: thoughts stay", net, 0, 5, 5, 5, 5);

        MindNet high = People.inLine(1000, 5, 5, 5);
        high.stubborn(0, true);
        DUE.is("promise 18: pulling down least", high.pull(0), 3);
        DUE.is("promise 18: as all are", high.pull(1000), 1);
    }

    private static void pullOfSeveral() {
        MindNet net = People.thinking(500, 0, 0, 0);
        net.stubborn(0, true);
        for (int one = 1; one < 4; one++) {
            net.weight(one, 0, 1);
        }
        DUE.is("promise 18: of several the first", net.pull(600), 1);
        net.weight(1, 3, 1);
        DUE.is("promise 18: one that is listened to", net.pull(600), 3);
        DUE.is("promise 18: below them the first that is not", net.pull(400), 1);
    }

    /** Sums with the same whole part: 1 held at 1 has 1 + 2 parts of itself beside it, 2 has a little more. */
    private static void pullByParts() {
        MindNet net = People.thinking(0, 5, 5, 5);
        net.stubborn(0, true);
        net.weight(1, 0, 1);
        net.weight(2, 0, 1);
        net.weight(3, 0, 3);
        net.weight(3, 1, 2);
        net.weight(3, 2, 3);
        // At 1: 1 has 1 + 2 / 8, 2 has 1 + 3 / 8, 3 has 1.
        DUE.is("promise 18: by parts of one", net.pull(1), 2);
        net.weight(3, 1, 4);
        DUE.is("promise 18: by parts of one, turned", net.pull(1), 1);
        net.weight(3, 1, 3);
        DUE.is("promise 18: parts alike", net.pull(1), 1);
        net.weight(2, 1, 1);
        net.weight(1, 2, 1);
        // At 1: 1 has 1 + 1 / 2 + (3 + 3 / 2) / 9, 2 the same.
        DUE.is("promise 18: parts of parts alike", net.pull(1), 1);
        net.weight(3, 2, 4);
        // At 1: 1 has 1 + 1 / 2 + 5 / 10, 2 has 1 + 1 / 2 + 11 / 20.
        DUE.is("promise 18: above a whole number", net.pull(1), 2);
    }

    private static void pullRefused() {
        MindNet net = People.inLine(0, 10, 20);
        DUE.is("promise 18: none is stubborn", net.pull(5), MindNet.NO);
        DUE.is("promise 18: outside goes ahead", net.pull(-1), MindNet.OUTSIDE);
        DUE.is("promise 18: pull(1001)", net.pull(1001), MindNet.OUTSIDE);
        net.stubborn(0, true);
        DUE.is("promise 18: two move", net.pull(500), 1);
        net.stubborn(1, true);
        DUE.is("promise 18: none would be left to move", net.pull(500), MindNet.NO);
        net.stubborn(2, true);
        DUE.is("promise 18: none moves", net.pull(500), MindNet.NO);
        DUE.is("promise 18: nobody there", new MindNet().pull(0), MindNet.NO);
        MindNet seven = People.inLine(1, 2, 3, 4, 5, 6, 7, 8);
        seven.stubborn(0, true);
        DUE.is("promise 18: rest of seven is not told now", seven.pull(5), MindNet.NO);
    }
}
