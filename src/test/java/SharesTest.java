/** Promises 14 to 16: who leads to whom, shares, and the end. */
public final class SharesTest {
    private static final Due DUE = new Due("SharesTest");
    private static final long LOST_UNKNOWN = -1000000000000000001L;
    private static final long LOST_OUTSIDE = -1000000000000000002L;
    private static final long LOST_NO = -1000000000000000005L;

    public static void main(String[] args) {
        leads();
        shareOfTwo();
        sharesOfThree();
        sharesOfSix();
        whoHasShares();
        refused();
        end();
        DUE.close();
    }

    private static void leads() {
        MindNet net = People.thinking(0, 500, 1000, 7);
        net.weight(1, 0, 1);
        net.weight(2, 1, 1);
        net.weight(3, 3, 0);
        net.ear(0);
        int[][] due = {{1, 1, 1, 0}, {0, 1, 1, 0}, {0, 0, 1, 0}, {0, 0, 0, 0}};
        for (int one = 0; one < 4; one++) {
            for (int other = 0; other < 4; other++) {
                DUE.is("promise 14: leads(" + one + ", " + other + ")", net.leads(one, other), due[one][other]);
            }
        }
        net.weight(0, 0, 0);
        DUE.is("promise 14: to itself by nobody", net.leads(0, 0), 0);
        net.weight(0, 2, 1);
        DUE.is("promise 14: to itself by others", net.leads(0, 0), 1);
        DUE.is("promise 14: around", net.leads(2, 1), 1);
        int[][] unknown = {{0, 4}, {4, 0}, {-1, 0}, {0, -1}};
        for (int[] pair : unknown) {
            DUE.is("promise 14: unknown", net.leads(pair[0], pair[1]), MindNet.UNKNOWN);
        }
    }

    private static void dueShare(String when, MindNet net, int one, long upper, long lower) {
        DUE.is(when + ": share(" + one + ", 0)", net.share(one, 0), upper);
        DUE.is(when + ": share(" + one + ", 1)", net.share(one, 1), lower);
    }

    private static void dueEnd(String when, MindNet net, long upper, long lower) {
        DUE.is(when + ": end(0)", net.end(0), upper);
        DUE.is(when + ": end(1)", net.end(1), lower);
    }

    private static void shareOfTwo() {
        MindNet net = People.inLine(0, 900);
        net.weight(0, 1, 2);
        net.stubborn(1, true);
        net.ear(1);
        // Of a: a / 3 + b / 2, so that b has 4 of 3 times what a has.
        dueShare("promise 15: two, stubborn or not", net, 0, 3, 7);
        dueShare("promise 15: two, stubborn or not", net, 1, 4, 7);
        dueEnd("promise 16: two", net, 3600, 7);
        net.weight(0, 1, 1);
        dueShare("promise 15: in lowest terms", net, 0, 1, 2);
        dueEnd("promise 16: in lowest terms", net, 450, 1);
        People.dueThoughts(DUE, "promise 16: thoughts stay", net, 0, 900);
    }

    private static void sharesOfThree() {
        MindNet net = People.thinking(10, 20, 30);
        net.weight(0, 1, 1);
        net.weight(1, 2, 2);
        net.weight(2, 0, 3);
        net.weight(0, 0, 0);
        net.weight(1, 1, 0);
        net.weight(2, 2, 0);
        for (int one = 0; one < 3; one++) {
            dueShare("promise 15: a ring without own weights", net, one, 1, 3);
        }
        dueEnd("promise 16: a ring", net, 20, 1);
    }

    private static void sharesOfSix() {
        MindNet net = People.thinking(1000, 1000, 1000, 1000, 1000, 1000);
        People.weighAll(net, 9);
        dueShare("promise 15: six with the greatest weights", net, 5, 1, 6);
        dueEnd("promise 16: six with the greatest weights", net, 1000, 1);
        for (int one = 0; one < 6; one++) {
            for (int other = 0; other < 6; other++) {
                net.weight(one, other, one == other ? 0 : other == 0 ? 9 : 1);
            }
        }
        // What the first has is 9 / 13 of what the others have together; those are alike.
        dueShare("promise 15: six who listen to the first", net, 0, 9, 22);
        dueShare("promise 15: six who listen to the first", net, 3, 13, 110);
    }

    private static void whoHasShares() {
        MindNet one = People.thinking(5);
        DUE.is("promise 15: one alone has none", one.share(0, 0), LOST_NO);
        DUE.is("promise 16: one alone has none", one.end(0), LOST_NO);
        MindNet six = People.inLine(1, 2, 3, 4, 5, 6);
        DUE.holds("promise 15: six have some", six.share(0, 0) > 0);
        six.one(7);
        six.weight(6, 0, 1);
        six.weight(0, 6, 1);
        DUE.is("promise 15: seven have none", six.share(0, 0), LOST_NO);
        DUE.is("promise 16: seven have none", six.end(1), LOST_NO);
        MindNet oneWay = People.thinking(1, 2);
        oneWay.weight(0, 1, 1);
        DUE.is("promise 15: one does not lead to the other", oneWay.share(0, 0), LOST_NO);
        DUE.is("promise 16: one does not lead to the other", oneWay.end(0), LOST_NO);
        MindNet toFirst = People.inLine(1, 2, 3);
        toFirst.weight(0, 1, 0);
        DUE.is("promise 15: nobody leads to the first", toFirst.share(1, 0), LOST_NO);
        toFirst.weight(0, 2, 1);
        DUE.holds("promise 15: the last leads to the first", toFirst.share(1, 0) > 0);
        toFirst.weight(2, 1, 0);
        DUE.is("promise 15: nobody leads to the last", toFirst.share(1, 0), LOST_NO);
    }

    private static void refused() {
        MindNet net = People.inLine(0, 900);
        DUE.is("promise 15: share(2, 9)", net.share(2, 9), LOST_UNKNOWN);
        DUE.is("promise 15: share(-1, 0)", net.share(-1, 0), LOST_UNKNOWN);
        DUE.is("promise 15: share(0, 2)", net.share(0, 2), LOST_OUTSIDE);
        DUE.is("promise 15: share(0, -1)", net.share(0, -1), LOST_OUTSIDE);
        DUE.is("promise 16: end(2)", net.end(2), LOST_OUTSIDE);
        DUE.is("promise 16: end(-1)", net.end(-1), LOST_OUTSIDE);
        DUE.is("promise 16: end(2) of none", new MindNet().end(2), LOST_OUTSIDE);
        DUE.is("promise 16: end(0) of none", new MindNet().end(0), LOST_NO);
        net.weight(0, 1, 0);
        DUE.is("promise 15: outside goes ahead of no", net.share(0, 2), LOST_OUTSIDE);
    }

    private static void end() {
        MindNet net = People.inLine(0, 0);
        dueEnd("promise 16: nothing", net, 0, 1);
        net.think(1, 1);
        dueEnd("promise 16: a half", net, 1, 2);
    }
}
