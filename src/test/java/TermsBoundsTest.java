/**
 * "What it is", and "Terms", parts 1 to 4: each sentence that names a bound, as the document says it, with a test of
 * its own.
 */
public final class TermsBoundsTest {
    private static final Due DUE = new Due("TermsBoundsTest");
    private static final long LOST_NO = -1000000000000000005L;

    public static void main(String[] args) {
        callsUpToThe512th();
        quotientsAreCut();
        twelveAtMost();
        thoughtsFrom0To1000();
        weightsFrom0To9();
        earFrom0To1000();
        heardWithWeightAbove0();
        heardNotMoreThanEarAway();
        whoIsStubbornStays();
        ownOneIfTheSumIs0();
        allAtOnce();
        roundOfMost();
        theOneThatChangesNothingCounts();
        threeHundredAtMost();
        groupsByWeightsAbove0();
        groupsNotMoreThanEarApart();
        groupsOfNoneAndOfTwelve();
        spreadAndDiscord();
        withoutEars();
        leadsByWeightsAbove0();
        sharesOf2To6();
        sharesWhereEachLeadsToEach();
        sharesStubbornOrNot();
        sharesTogetherAre1();
        restOf1To6();
        restJustIfLed();
        restOfStubbornAsTheyAre();
        restWithoutOwnWeight();
        pullIsTheSumOfAll();
        talkOfTwoAlike();
        talkCutsTheHalf();
        fewestOfFirst2To4();
        fewestToDAtMost();
        fewestKindsEachOnce();
        fewestFoundAsItIsComeTo();
        spentBeyond500Kinds();
        DUE.close();
    }

    /** An object is used for at most 512 calls: 512 of which most are dear ones, and the last is as the first. */
    private static void callsUpToThe512th() {
        MindNet net = new MindNet();
        for (int one = 0; one < 12; one++) {
            net.one(one < 6 ? 1 : 2);
        }
        // Those who think 1 and those who think 2 listen to one another alone, and swap thoughts for ever.
        for (int one = 0; one < 12; one++) {
            for (int other = 0; other < 12; other++) {
                net.weight(one, other, one < 6 == other < 6 ? 0 : 9);
            }
        }
        for (int call = 12 + 144; call < 510; call++) {
            DUE.is("calls: call " + call, net.width(1, 31, 12), MindNet.NONE);
        }
        DUE.is("calls: the 511th", net.settle(), MindNet.SPENT);
        DUE.is("calls: the 512th", net.told(5), 18);
    }

    /** Quotients are cut. */
    private static void quotientsAreCut() {
        MindNet net = People.thinking(0, 1000);
        net.weight(0, 0, 1);
        net.weight(0, 1, 2);
        net.weight(1, 0, 2);
        net.rounds(1);
        People.dueThoughts(DUE, "terms: 2000 by 3, 1000 by 3", net, 666, 333);
        MindNet near = People.thinking(999, 1000);
        near.weight(0, 1, 9);
        near.rounds(1);
        People.dueThoughts(DUE, "terms: 9999 by 10", near, 999, 1000);
        near.talk(0, 1);
        People.dueThoughts(DUE, "terms: 1999 by 2", near, 999, 1000);
    }

    /** PEOPLE, 12 at most, numbered from 0 on. */
    private static void twelveAtMost() {
        MindNet net = new MindNet();
        for (int number = 0; number < 12; number++) {
            DUE.is("part 1: number from 0 on", net.one(number), number);
            DUE.is("part 1: the last of them is there", net.about(number, 0), number);
            DUE.is("part 1: the next is not yet there", net.about(number + 1, 0), MindNet.UNKNOWN);
        }
        DUE.is("part 1: a 13th", net.one(12), MindNet.FULL);
        DUE.is("part 1: 12 at most", net.told(0), 12);
        DUE.is("part 1: number 12 is nobody", net.about(12, 0), MindNet.UNKNOWN);
        DUE.is("part 1: number 11 is the last", net.about(11, 0), 11);
    }

    /** A THOUGHT (0 to 1000). */
    private static void thoughtsFrom0To1000() {
        MindNet net = new MindNet();
        DUE.is("part 1: a thought of -1", net.one(-1), MindNet.OUTSIDE);
        DUE.is("part 1: a thought of 0", net.one(0), 0);
        DUE.is("part 1: a thought of 1000", net.one(1000), 1);
        DUE.is("part 1: a thought of 1001", net.one(1001), MindNet.OUTSIDE);
        DUE.is("part 1: to think -1", net.think(0, -1), MindNet.OUTSIDE);
        DUE.is("part 1: to think 1000", net.think(0, 1000), 0);
        DUE.is("part 1: to think 0", net.think(1, 0), 1000);
        DUE.is("part 1: to think 1001", net.think(1, 1001), MindNet.OUTSIDE);
        People.dueThoughts(DUE, "part 1: 0 to 1000", net, 1000, 0);
    }

    /** WEIGHT (0 to 9; at first 1 for itself, 0 for others). */
    private static void weightsFrom0To9() {
        MindNet net = People.thinking(1, 2);
        DUE.is("part 1: at first 1 for itself", net.weight(0, 0, 0), 1);
        DUE.is("part 1: at first 0 for others", net.weight(0, 1, 9), 0);
        DUE.is("part 1: a weight of 10", net.weight(0, 1, 10), MindNet.OUTSIDE);
        DUE.is("part 1: a weight of -1", net.weight(0, 1, -1), MindNet.OUTSIDE);
        DUE.is("part 1: a weight of 9 was taken", net.weight(0, 1, 0), 9);
        DUE.is("part 1: a weight of 0 was taken", net.weight(0, 1, 0), 0);
        DUE.is("part 1: a weight of 0 for itself was taken", net.weight(0, 0, 9), 0);
        DUE.is("part 1: a weight of 10 for itself", net.weight(0, 0, 10), MindNet.OUTSIDE);
        DUE.is("part 1: a weight of -1 for itself", net.weight(0, 0, -1), MindNet.OUTSIDE);
        DUE.is("part 1: a weight of 9 for itself was taken", net.weight(0, 0, 1), 9);
        DUE.is("part 1: that of the other one is its own", net.weight(1, 0, 1), 0);
        net.one(3);
        for (int one = 0; one < 2; one++) {
            DUE.is("part 1: who comes later is not listened to", net.weight(one, 2, 1), 0);
            DUE.is("part 1: who comes later does not listen", net.weight(2, one, 1), 0);
        }
        DUE.is("part 1: who comes later listens to itself", net.weight(2, 2, 1), 1);
    }

    /** EAR (0 to 1000; 1000 at first). */
    private static void earFrom0To1000() {
        MindNet net = new MindNet();
        DUE.is("part 1: an ear of 1001", net.ear(1001), MindNet.OUTSIDE);
        DUE.is("part 1: an ear of -1", net.ear(-1), MindNet.OUTSIDE);
        DUE.is("part 1: 1000 at first", net.ear(0), 1000);
        DUE.is("part 1: an ear of 0 was taken", net.ear(1000), 0);
        DUE.is("part 1: an ear of 1000 was taken", net.ear(999), 1000);
    }

    /** HEARD by one: itself and those for whom it has a WEIGHT above 0. */
    private static void heardWithWeightAbove0() {
        MindNet net = People.thinking(100, 200, 300);
        net.weight(0, 1, 1);
        DUE.is("part 1: a weight of 1 is above 0", net.about(0, 2), 1);
        DUE.is("part 1: it is its own weight that counts", net.about(1, 2), 0);
        net.rounds(1);
        People.dueThoughts(DUE, "part 1: heard with a weight of 1", net, 150, 200, 300);
        net.weight(0, 1, 0);
        DUE.is("part 1: a weight of 0 is not above 0", net.about(0, 2), 0);
        DUE.is("part 1: nobody is heard but itself", net.rounds(1), 0);
    }

    /** Whose THOUGHT is not more than EAR from its own: above it and below it. */
    private static void heardNotMoreThanEarAway() {
        int[][] others = {{400, 399}, {600, 601}};
        for (int[] other : others) {
            for (int more = 0; more < 2; more++) {
                MindNet net = People.thinking(500, other[more]);
                net.weight(0, 1, 1);
                net.ear(100);
                String when = "part 1: ear 100 at 500 with " + other[more];
                DUE.is(when + ": heard", net.about(0, 2), 1 - more);
                net.rounds(1);
                DUE.is(when + ": thought", net.about(0, 0), more == 0 ? (500 + other[0]) / 2 : 500);
            }
        }
        MindNet net = People.thinking(0, 0, 1, 1000);
        People.weighAll(net, 1);
        net.ear(0);
        DUE.is("part 1: an ear of 0 hears those alike", net.about(0, 2), 1);
        DUE.is("part 1: an ear of 0 does not hear one beside", net.about(2, 2), 0);
        net.ear(999);
        DUE.is("part 1: an ear of 999", net.about(3, 2), 1);
        net.ear(1000);
        DUE.is("part 1: an ear of 1000 hears all", net.about(3, 2), 3);
    }

    /** A ROUND: each that is not STUBBORN has a new THOUGHT. */
    private static void whoIsStubbornStays() {
        MindNet net = People.inLine(0, 100);
        net.stubborn(0, true);
        DUE.is("part 1: the other one moves", net.rounds(1), 1);
        People.dueThoughts(DUE, "part 1: the stubborn one stays", net, 0, 50);
        net.stubborn(1, true);
        DUE.is("part 1: all are stubborn", net.rounds(300), 0);
        net.stubborn(0, false);
        net.rounds(1);
        People.dueThoughts(DUE, "part 1: stubborn no more", net, 25, 50);
    }

    /** Its own one, if that is 0 (the sum of WEIGHTS of those it HEARD). */
    private static void ownOneIfTheSumIs0() {
        MindNet net = People.thinking(7, 900);
        net.weight(0, 0, 0);
        DUE.is("part 1: a sum of 0, nobody else is heard", net.rounds(1), 0);
        net.weight(0, 1, 9);
        net.ear(892);
        DUE.is("part 1: a sum of 0, the other one is too far", net.rounds(1), 0);
        People.dueThoughts(DUE, "part 1: its own one", net, 7, 900);
        net.ear(893);
        DUE.is("part 1: a sum of 9 without its own", net.rounds(1), 1);
        People.dueThoughts(DUE, "part 1: the other's one alone", net, 900, 900);
    }

    /** All at once. */
    private static void allAtOnce() {
        MindNet net = People.thinking(1, 2, 3, 4);
        for (int one = 0; one < 4; one++) {
            net.weight(one, one, 0);
            net.weight(one, (one + 1) % 4, 1);
        }
        DUE.is("part 1: around", net.rounds(1), 1);
        People.dueThoughts(DUE, "part 1: all at once", net, 2, 3, 4, 1);
        DUE.is("part 1: around again", net.rounds(3), 3);
        People.dueThoughts(DUE, "part 1: once around", net, 1, 2, 3, 4);
    }

    /** The most that a ROUND can have: 12 with THOUGHTS of 1000 and WEIGHTS of 9. */
    private static void roundOfMost() {
        MindNet net = new MindNet();
        for (int one = 0; one < 12; one++) {
            net.one(1000);
        }
        People.weighAll(net, 9);
        DUE.is("part 1: all at 1000", net.rounds(1), 0);
        DUE.is("part 1: 12 at 1000", net.told(5), 12000);
        net.think(11, 0);
        net.rounds(1);
        DUE.is("part 1: 99000 by 108 each", net.told(5), 12 * 916);
    }

    /** ROUNDS till one changes nothing (that one counts). */
    private static void theOneThatChangesNothingCounts() {
        DUE.is("part 1: to settle with nobody", new MindNet().settle(), 1);
        MindNet net = People.inLine(10, 20);
        DUE.is("part 1: one that changes and one that does not", net.settle(), 2);
        DUE.is("part 1: one that does not", net.settle(), 1);
        DUE.is("part 1: a round that changes nothing does not count as a change", net.rounds(1), 0);
    }

    /** 300 at most (else SPENT): the 300th may be the one that changes nothing. */
    private static void threeHundredAtMost() {
        DUE.is("part 1: 299 rounds change something", People.slowing(253).rounds(300), 299);
        DUE.is("part 1: 298 rounds, and one that does not", People.slowing(252).settle(), 299);
        DUE.is("part 1: 299 rounds, and one that does not", People.slowing(253).settle(), 300);
        MindNet net = People.slowing(254);
        DUE.is("part 1: 300 rounds, and no more", net.settle(), MindNet.SPENT);
        DUE.is("part 1: the 300th was the last that changes", net.settle(), 1);
        MindNet more = People.slowing(255);
        DUE.is("part 1: 301 rounds, of which 300 are done", more.settle(), MindNet.SPENT);
        DUE.is("part 1: one was left to do", more.settle(), 2);
    }

    /** Two hang together, if one has a WEIGHT above 0 for the other. */
    private static void groupsByWeightsAbove0() {
        MindNet net = People.thinking(5, 5, 5);
        DUE.is("part 1: alike, but without weights", net.told(2), 3);
        net.weight(0, 1, 1);
        DUE.is("part 1: the first listens", net.told(2), 2);
        DUE.is("part 1: group of the one that is listened to", net.about(1, 3), 0);
        net.weight(0, 1, 0);
        net.weight(1, 0, 1);
        DUE.is("part 1: the second listens", net.told(2), 2);
        DUE.is("part 1: group of the one that listens", net.about(1, 3), 0);
        net.weight(1, 0, 0);
        net.weight(2, 2, 0);
        DUE.is("part 1: own weights do not matter", net.told(2), 3);
        net.stubborn(2, true);
        net.weight(2, 0, 1);
        DUE.is("part 1: stubborn ones hang too", net.told(2), 2);
        DUE.is("part 1: group of the one between", net.about(1, 3), 1);
        DUE.is("part 1: group of the last", net.about(2, 3), 0);
    }

    /** And THOUGHTS are not more than EAR apart; groups by those. */
    private static void groupsNotMoreThanEarApart() {
        MindNet net = People.inLine(0, 30, 0, 60);
        net.ear(30);
        DUE.is("part 1: ear 30, 60 apart from the one before", net.told(2), 2);
        net.weight(3, 1, 1);
        DUE.is("part 1: ear 30, 30 apart from another", net.told(2), 1);
        net.ear(29);
        DUE.is("part 1: ear 29", net.told(2), 4);
        net.ear(59);
        DUE.is("part 1: by others over any stretch", net.told(2), 1);
        net.weight(3, 1, 0);
        DUE.is("part 1: ear 59", net.told(2), 2);
        net.ear(60);
        DUE.is("part 1: ear 60", net.told(2), 1);
        MindNet alike = People.inLine(9, 9, 10);
        alike.ear(0);
        DUE.is("part 1: ear 0", alike.told(2), 2);
    }

    private static void groupsOfNoneAndOfTwelve() {
        DUE.is("part 1: groups of nobody", new MindNet().told(2), 0);
        DUE.is("part 1: groups of one", People.thinking(3).told(2), 1);
        MindNet net = People.thinking(0, 0, 0, 0, 0, 0, 0, 0, 0, 0, 0, 0);
        DUE.is("part 1: 12 groups", net.told(2), 12);
        DUE.is("part 1: the last group", net.about(11, 3), 11);
        for (int one = 11; one > 0; one--) {
            net.weight(one, one - 1, 1);
            DUE.is("part 1: one group less", net.told(2), one);
        }
        DUE.is("part 1: all in the first group", net.about(11, 3), 0);
    }

    /** SPREAD: the greatest less the least. DISCORD: of all pairs the differences together. */
    private static void spreadAndDiscord() {
        DUE.is("part 1: spread of nobody", new MindNet().told(3), 0);
        DUE.is("part 1: discord of nobody", new MindNet().told(4), 0);
        DUE.is("part 1: spread of one", People.thinking(1000).told(3), 0);
        DUE.is("part 1: discord of one", People.thinking(1000).told(4), 0);
        MindNet net = People.thinking(0, 1000, 0, 1000, 0, 1000, 0, 1000, 0, 1000, 0, 1000);
        net.ear(0);
        DUE.is("part 1: the greatest spread", net.told(3), 1000);
        DUE.is("part 1: the greatest discord", net.told(4), 36000);
        MindNet three = People.thinking(7, 9, 4);
        DUE.is("part 1: spread, first between", three.told(3), 5);
        DUE.is("part 1: discord, each pair once", three.told(4), 2 + 3 + 5);
        three.think(0, 10);
        DUE.is("part 1: spread, first at the end", three.told(3), 6);
    }

    /** Without ears (part 2); REST is told without them as well. */
    private static void withoutEars() {
        MindNet net = People.inLine(0, 1000);
        net.ear(0);
        DUE.is("part 2: leads without ears", net.leads(0, 1), 1);
        DUE.is("part 2: share without ears", net.share(0, 1), 2);
        DUE.is("part 2: end without ears", net.end(0), 500);
        net.stubborn(0, true);
        DUE.is("part 3: rest without ears", net.rest(1, 0), 0);
        DUE.is("part 3: rest without ears, lower", net.rest(1, 1), 1);
        net.one(501);
        net.weight(1, 2, 2);
        net.stubborn(2, true);
        DUE.is("part 3: rest of one between, without ears", net.rest(1, 0), 334);
        net.stubborn(2, false);
        net.weight(1, 2, 0);
        net.weight(2, 1, 1);
        DUE.is("part 3: pull without ears", net.pull(1000), 1);
    }

    /** ONE leads to another, if that one listens to it (a WEIGHT above 0), or to one to whom it leads. */
    private static void leadsByWeightsAbove0() {
        MindNet net = new MindNet();
        for (int one = 0; one < 12; one++) {
            net.one(one);
        }
        for (int one = 11; one > 0; one--) {
            DUE.is("part 2: not yet to the last", net.leads(0, 11), 0);
            net.weight(one, one - 1, 1);
        }
        DUE.is("part 2: over eleven steps", net.leads(0, 11), 1);
        DUE.is("part 2: not the other way", net.leads(11, 0), 0);
        DUE.is("part 2: one step the other way", net.leads(1, 0), 0);
        net.weight(6, 5, 0);
        DUE.is("part 2: a weight of 0 between", net.leads(0, 11), 0);
        DUE.is("part 2: as far as before it", net.leads(0, 5), 1);
        DUE.is("part 2: not behind it", net.leads(0, 6), 0);
    }

    /** SHARES (2 to 6 PEOPLE). */
    private static void sharesOf2To6() {
        DUE.is("part 2: end of nobody", new MindNet().end(0), LOST_NO);
        MindNet net = People.thinking(10);
        DUE.is("part 2: share among 1", net.share(0, 0), LOST_NO);
        DUE.is("part 2: end among 1", net.end(0), LOST_NO);
        for (int people = 2; people <= 12; people++) {
            net.one(10);
            People.weighAll(net, 9);
            boolean told = people <= 6;
            DUE.is("part 2: share among " + people, net.share(people - 1, 0), told ? 1 : LOST_NO);
            DUE.is("part 2: share among " + people + ", lower", net.share(0, 1), told ? people : LOST_NO);
            DUE.is("part 2: end among " + people, net.end(0), told ? 10 : LOST_NO);
            DUE.is("part 2: end among " + people + ", lower", net.end(1), told ? 1 : LOST_NO);
        }
    }

    /** Of whom each leads to each; each has a sum of WEIGHTS above 0 then. */
    private static void sharesWhereEachLeadsToEach() {
        MindNet net = People.thinking(0, 30, 60);
        for (int one = 0; one < 3; one++) {
            net.weight(one, one, 0);
            net.weight(one, (one + 1) % 3, 1);
        }
        DUE.is("part 2: around without own weights", net.share(0, 1), 3);
        DUE.is("part 2: end around", net.end(0), 30);
        for (int one = 0; one < 3; one++) {
            net.weight(one, (one + 1) % 3, 0);
            for (int asked = 0; asked < 3; asked++) {
                DUE.is("part 2: one link is missing", net.share(asked, 0), LOST_NO);
            }
            DUE.is("part 2: end where one link is missing", net.end(0), LOST_NO);
            net.weight(one, one, 9);
            DUE.is("part 2: own weight is no link", net.share(one, 1), LOST_NO);
            net.weight(one, one, 0);
            net.weight(one, (one + 1) % 3, 1);
        }
        MindNet apart = People.inLine(1, 2);
        apart.one(3);
        DUE.is("part 2: one stands apart", apart.share(0, 0), LOST_NO);
    }

    /** STUBBORN or not. */
    private static void sharesStubbornOrNot() {
        MindNet net = People.inLine(0, 100);
        net.weight(0, 1, 2);
        for (int stubborn = 0; stubborn < 3; stubborn++) {
            DUE.is("part 2: share with " + stubborn + " stubborn", net.share(0, 0), 3);
            DUE.is("part 2: share with " + stubborn + " stubborn, lower", net.share(0, 1), 7);
            DUE.is("part 2: end with " + stubborn + " stubborn", net.end(0), 400);
            net.stubborn(stubborn, true);
        }
    }

    private static Fraction shareOf(MindNet net, int one) {
        return Fraction.of(net.share(one, 0)).by(Fraction.of(net.share(one, 1)));
    }

    /** Numbers, together 1, so that the SHARE of each is the sum, over all, of SHARE times WEIGHT by WEIGHTS. */
    private static void sharesTogetherAre1() {
        int[][] weights = {{0, 9, 0, 1, 0, 5}, {1, 0, 7, 0, 2, 0}, {0, 0, 9, 9, 9, 8}, {3, 0, 0, 0, 0, 0},
            {0, 4, 0, 6, 1, 0}, {2, 2, 9, 0, 0, 7}};
        MindNet net = People.thinking(1000, 1, 999, 500, 0, 7);
        int[] together = new int[6];
        for (int one = 0; one < 6; one++) {
            for (int other = 0; other < 6; other++) {
                net.weight(one, other, weights[one][other]);
                together[one] += weights[one][other];
            }
        }
        Fraction all = Fraction.ZERO;
        Fraction end = Fraction.ZERO;
        for (int one = 0; one < 6; one++) {
            Fraction counts = Fraction.ZERO;
            for (int by = 0; by < 6; by++) {
                Fraction part = Fraction.of(weights[by][one]).by(Fraction.of(together[by]));
                counts = counts.plus(shareOf(net, by).times(part));
            }
            DUE.holds("part 2: share of " + one, counts.minus(shareOf(net, one)).isZero());
            all = all.plus(shareOf(net, one));
            end = end.plus(shareOf(net, one).times(Fraction.of(net.about(one, 0))));
        }
        DUE.holds("part 2: together 1", all.minus(Fraction.ONE).isZero());
        DUE.is("part 2: the end", net.end(0), end.part(0));
        DUE.is("part 2: the end, lower", net.end(1), end.part(1));
    }

    /** REST is told for 1 to 6 of these (that are not STUBBORN). */
    private static void restOf1To6() {
        MindNet net = new MindNet();
        for (int one = 0; one < 12; one++) {
            net.one(one == 0 ? 77 : 5);
        }
        People.weighAll(net, 1);
        for (int stubborn = 11; stubborn > 0; stubborn--) {
            net.think(stubborn, 77);
            net.stubborn(stubborn, true);
            boolean told = stubborn <= 6;
            DUE.is("part 3: " + stubborn + " move", net.rest(0, 0), told ? 77 : LOST_NO);
            DUE.is("part 3: " + stubborn + " move, lower", net.rest(11, 1), told ? 1 : LOST_NO);
        }
        net.stubborn(0, true);
        DUE.is("part 3: none moves", net.rest(0, 0), LOST_NO);
        DUE.is("part 3: one alone that moves", People.thinking(5).rest(0, 0), LOST_NO);
        MindNet alone = People.thinking(5);
        alone.stubborn(0, true);
        DUE.is("part 3: one alone that is stubborn", alone.rest(0, 0), LOST_NO);
    }

    /** There is one just if some STUBBORN one leads to each that is not. */
    private static void restJustIfLed() {
        MindNet net = People.thinking(100, 5, 5, 300);
        net.stubborn(0, true);
        net.weight(1, 0, 1);
        DUE.is("part 3: nobody leads to two", net.rest(1, 0), LOST_NO);
        net.weight(2, 1, 1);
        DUE.is("part 3: nobody leads to the last", net.rest(0, 0), LOST_NO);
        net.weight(3, 2, 1);
        DUE.is("part 3: led over three steps", net.rest(3, 0), 100);
        net.weight(2, 1, 0);
        net.weight(2, 3, 1);
        DUE.is("part 3: two that listen to one another alone", net.rest(1, 0), LOST_NO);
        net.stubborn(3, true);
        DUE.is("part 3: led by the other stubborn one", net.rest(2, 0), 300);
        DUE.is("part 3: led by the first one", net.rest(1, 0), 100);
        net.weight(0, 1, 1);
        net.weight(1, 0, 0);
        DUE.is("part 3: a stubborn one that listens leads nowhere", net.rest(2, 0), LOST_NO);
    }

    /** STUBBORN ones' as they are. */
    private static void restOfStubbornAsTheyAre() {
        MindNet net = People.inLine(0, 3, 1000, 5, 999);
        net.stubborn(0, true);
        net.stubborn(2, true);
        net.stubborn(4, true);
        int[] upper = {0, 500, 1000, 1999, 999};
        int[] lower = {1, 1, 1, 2, 1};
        for (int one = 0; one < 5; one++) {
            DUE.is("part 3: rest beside three stubborn ones", net.rest(one, 0), upper[one]);
            DUE.is("part 3: rest beside three stubborn ones, lower", net.rest(one, 1), lower[one]);
        }
    }

    /** Its own WEIGHT does not matter. */
    private static void restWithoutOwnWeight() {
        MindNet net = People.inLine(0, 3, 4, 1000);
        net.stubborn(0, true);
        net.stubborn(3, true);
        for (int own = 0; own <= 9; own++) {
            net.weight(1, 1, own);
            net.weight(3, 3, own);
            DUE.is("part 3: own weight " + own, net.rest(1, 0), 1000);
            DUE.is("part 3: own weight " + own + ", lower", net.rest(1, 1), 3);
            DUE.is("part 3: own weight " + own + ", the other", net.rest(2, 0), 2000);
        }
    }

    /** THE PULL: the sum of all of REST then; below by less than one part, and alike. */
    private static void pullIsTheSumOfAll() {
        MindNet net = People.thinking(0, 5, 5, 5);
        net.stubborn(0, true);
        net.weight(1, 0, 1);
        net.weight(2, 0, 1);
        net.weight(3, 1, 4);
        net.weight(3, 2, 5);
        net.weight(3, 0, 9);
        // Held at 9, 1 has 9 + 9 * 4 / 18 and 2 has 9 + 9 * 5 / 18.
        DUE.is("part 3: the greater sum by a half", net.pull(9), 2);
        net.weight(3, 1, 5);
        DUE.is("part 3: sums alike", net.pull(9), 1);
        net.weight(3, 1, 6);
        DUE.is("part 3: the greater sum by some parts", net.pull(9), 1);
        MindNet near = People.inLine(2, 0, 0);
        near.stubborn(0, true);
        near.weight(2, 0, 3);
        near.weight(2, 1, 2);
        // Held at 3, 1 has 3 + 2 + 12 / 5 and 2 has 3 + 2 + 5 / 2.
        DUE.is("part 3: the greater sum by a tenth", near.pull(3), 2);
        MindNet first = People.thinking(5, 5, 0);
        first.stubborn(2, true);
        first.weight(0, 2, 1);
        first.weight(1, 2, 1);
        first.weight(1, 0, 1);
        // Held at 1000, 0 has 1000 + 500 and 1 has 1000.
        DUE.is("part 3: the first one counts", first.pull(1000), 0);
    }

    /** The one with the lesser THOUGHT (the lesser number, if they are alike) has s by 2 then. */
    private static void talkOfTwoAlike() {
        for (int thought = 0; thought <= 1000; thought += 125) {
            MindNet net = People.thinking(thought, thought);
            DUE.is("part 4: two alike", net.talk(1, 0), 0);
            People.dueThoughts(DUE, "part 4: two alike", net, thought, thought);
        }
    }

    /** S by 2, the other what is left of s. */
    private static void talkCutsTheHalf() {
        int[][] talks = {{0, 1, 0, 1}, {1, 0, 1, 0}, {0, 1000, 500, 500}, {1000, 999, 1000, 999}, {3, 10, 6, 7},
            {10, 3, 7, 6}};
        for (int[] row : talks) {
            for (int named = 0; named < 2; named++) {
                MindNet net = People.thinking(row[0], row[1]);
                net.talk(named, 1 - named);
                People.dueThoughts(DUE, "part 4: a talk", net, row[2], row[3]);
            }
        }
    }

    private static void dueFewest(String when, MindNet net, int n, int d, int talks, int kinds) {
        DUE.is("part 4: " + when + ": fewest(" + n + ", " + d + ")", net.fewest(n, d), talks);
        DUE.is("part 4: " + when + ": found()", net.found(), kinds);
    }

    /** Of the first n PEOPLE (2 to 4), of any two of them. */
    private static void fewestOfFirst2To4() {
        MindNet net = People.thinking(0, 8, 16, 24, 1000);
        DUE.is("part 4: of 1", net.fewest(1, 0), MindNet.OUTSIDE);
        dueFewest("the others do not count", net, 2, 0, 1, 2);
        dueFewest("of 3, by 01 and 02", net, 3, 8, 1, 3);
        dueFewest("of 4, by 01, 02 and 03", net, 4, 8, 1, 4);
        // Six kinds by one talk, then 5 by another one behind 01, 3 behind 02, and (10, 10, 16, 12) behind 03.
        dueFewest("of 4, by two talks", net, 4, 7, 2, 16);
        DUE.is("part 4: of 5", net.fewest(5, 0), MindNet.OUTSIDE);
        MindNet last = People.thinking(5, 5, 5, 25);
        dueFewest("the last of 4 counts", last, 4, 19, 1, 2);
        dueFewest("the last of 4 does not count", last, 3, 0, 0, 1);
    }

    /** That bring their SPREAD to d at most. */
    private static void fewestToDAtMost() {
        MindNet net = People.thinking(10, 110);
        dueFewest("as near as d", net, 2, 100, 0, 1);
        dueFewest("one more than d", net, 2, 99, 1, 2);
        dueFewest("any are as near as 1000", People.thinking(0, 1000, 0, 1000), 4, 1000, 0, 1);
        dueFewest("not as near as 999", People.thinking(0, 1000), 2, 999, 1, 2);
        MindNet odd = People.thinking(10, 111);
        dueFewest("one apart is as near as 1", odd, 2, 1, 1, 2);
        dueFewest("but not as near as 0", odd, 2, 0, MindNet.NONE, 2);
    }

    /** All THOUGHTS that can be come to, each once (the first one counted). */
    private static void fewestKindsEachOnce() {
        dueFewest("the first one counts", People.thinking(1, 0), 2, 0, MindNet.NONE, 1);
        dueFewest("one talk leaves all as it is", People.thinking(0, 1), 2, 0, MindNet.NONE, 1);
        // (1, 0, 1) and (0, 1, 1), from where each talk leaves all as it is.
        dueFewest("who has which thought matters", People.thinking(0, 0, 2), 3, 0, MindNet.NONE, 3);
    }

    /** In order, pairs by their first, then their second one; found as it is come to. */
    private static void fewestFoundAsItIsComeTo() {
        // Pairs are 01, 02, 03, 12, 13, 23; a talk of two that are alike brings no other kind.
        int[][] near = {{0, 40, 20, 20}, {0, 20, 40, 20}, {0, 20, 20, 40}, {20, 0, 40, 20}, {20, 0, 20, 40},
            {20, 20, 0, 40}};
        int[] kinds = {2, 3, 4, 4, 5, 6};
        for (int pair = 0; pair < near.length; pair++) {
            MindNet net = People.thinking(near[pair]);
            dueFewest("by pair " + pair, net, 4, 0, 1, kinds[pair]);
        }
        // Seven kinds, then 5 behind 01, 5 behind 02, and (33, 32, 40, 45) behind 03.
        dueFewest("in the order in which they were found", People.thinking(10, 20, 40, 80), 4, 13, 2, 18);
    }

    /** SPENT beyond 500 kinds of THOUGHTS (the first one counted). */
    private static void spentBeyond500Kinds() {
        dueFewest("499 kinds", People.thinking(13, 1, 10, 21), 4, 0, MindNet.NONE, 499);
        dueFewest("500 kinds", People.thinking(31, 52, 37, 34), 4, 0, MindNet.NONE, 500);
        dueFewest("501 kinds", People.thinking(1, 8, 19, 17), 4, 0, MindNet.SPENT, 500);
        dueFewest("502 kinds", People.thinking(20, 11, 1, 2), 4, 0, MindNet.SPENT, 500);
        dueFewest("most kinds", People.thinking(1000, 0, 777, 1), 4, 0, MindNet.SPENT, 500);
    }
}
