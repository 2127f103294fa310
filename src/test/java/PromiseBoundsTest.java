/** Promises 1 to 21: each sentence that names a bound, as the document says it, with a test of its own. */
public final class PromiseBoundsTest {
    private static final Due DUE = new Due("PromiseBoundsTest");
    private static final long LOST_UNKNOWN = -1000000000000000001L;
    private static final long LOST_OUTSIDE = -1000000000000000002L;
    private static final long LOST_NO = -1000000000000000005L;

    public static void main(String[] args) {
        promise1Nobody();
        promise1Ear();
        promise2Outside();
        promise2Full();
        promise3WhichItWas();
        promise3Refused();
        promise4WhetherItWas();
        promise4Unknown();
        promise5OfItself();
        promise5Refused();
        promise6Outside();
        promise7From1To300();
        promise7HowManyChanged();
        promise8All300AreDone();
        promise9WithoutItself();
        promise9GroupsFrom0();
        promise9Refused();
        promise10Spread0();
        promise10Outside();
        promise11HowMany();
        promise12OthersStay();
        promise12State();
        promise13NotBelowA();
        promise13NotMoreThan30Above();
        promise13GroupsAtMost();
        promise13Settled();
        promise13None();
        promise13AllStay();
        promise13Spent();
        promise13Outside();
        promise14ToItself();
        promise14Unknown();
        promise15LowestTerms();
        promise15Refused();
        promise16LowestTerms();
        promise16Refused();
        promise17LowestTerms();
        promise17Refused();
        promise18OfSeveralTheFirst();
        promise18Outside();
        promise18RestIsNotTold();
        promise18NoneLeftToMove();
        promise19TheyAreOne();
        promise19StubbornOnes();
        promise19Difference();
        promise20OutsideAhead();
        promise20FewerThanN();
        promise20SpentAndNone();
        promise20ThoughtsStay();
        promise21AtFirst();
        promise21TheLatest();
        promise21NoneOfTheEarlier();
        DUE.close();
    }

    /** No PEOPLE. */
    private static void promise1Nobody() {
        MindNet net = new MindNet();
        int[] told = {0, 1000, 0, 0, 0, 0, 0};
        for (int what = 0; what < told.length; what++) {
            DUE.is("promise 1: told(" + what + ")", net.told(what), told[what]);
        }
        DUE.is("promise 1: think(0, 5)", net.think(0, 5), MindNet.UNKNOWN);
        DUE.is("promise 1: stubborn(0, true)", net.stubborn(0, true), MindNet.UNKNOWN);
        DUE.is("promise 1: weight(0, 0, 5)", net.weight(0, 0, 5), MindNet.UNKNOWN);
        DUE.is("promise 1: rounds(1)", net.rounds(1), 0);
        DUE.is("promise 1: rounds(300)", net.rounds(300), 0);
        DUE.is("promise 1: settle()", net.settle(), 1);
        DUE.is("promise 1: about(0, 0)", net.about(0, 0), MindNet.UNKNOWN);
        DUE.is("promise 1: back()", net.back(), MindNet.STATE);
        DUE.is("promise 1: width(0, 30, 1)", net.width(0, 30, 1), 0);
        DUE.is("promise 1: leads(0, 0)", net.leads(0, 0), MindNet.UNKNOWN);
        DUE.is("promise 1: share(0, 0)", net.share(0, 0), LOST_UNKNOWN);
        DUE.is("promise 1: end(0)", net.end(0), LOST_NO);
        DUE.is("promise 1: rest(0, 0)", net.rest(0, 0), LOST_UNKNOWN);
        DUE.is("promise 1: pull(0)", net.pull(0), MindNet.NO);
        DUE.is("promise 1: talk(0, 1)", net.talk(0, 1), MindNet.UNKNOWN);
        DUE.is("promise 1: fewest(2, 0)", net.fewest(2, 0), MindNet.UNKNOWN);
        DUE.is("promise 1: found()", net.found(), 0);
        DUE.is("promise 1: the first one is 0", net.one(5), 0);
        DUE.is("promise 1: not stubborn", net.about(0, 1), 0);
        DUE.is("promise 1: weight 1 for itself", net.weight(0, 0, 1), 1);
    }

    /** EAR 1000. */
    private static void promise1Ear() {
        MindNet net = People.thinking(0, 1000);
        net.weight(0, 1, 1);
        DUE.is("promise 1: hears over 1000", net.about(0, 2), 1);
        DUE.is("promise 1: which it was", net.ear(5), 1000);
        DUE.is("promise 1: of another object", new MindNet().ear(5), 1000);
    }

    private static void promise2Outside() {
        MindNet net = new MindNet();
        DUE.is("promise 2: one(-1)", net.one(-1), MindNet.OUTSIDE);
        DUE.is("promise 2: one(1001)", net.one(1001), MindNet.OUTSIDE);
        DUE.is("promise 2: nobody came", net.told(0), 0);
        DUE.is("promise 2: one(0)", net.one(0), 0);
        DUE.is("promise 2: one(1000)", net.one(1000), 1);
    }

    private static void promise2Full() {
        MindNet net = new MindNet();
        for (int number = 0; number < 12; number++) {
            DUE.is("promise 2: its number", net.one(1000 - number), number);
        }
        for (int more = 0; more < 3; more++) {
            DUE.is("promise 2: full", net.one(7), MindNet.FULL);
        }
        DUE.is("promise 2: nobody more", net.told(0), 12);
        DUE.is("promise 2: the last one's thought", net.about(11, 0), 989);
    }

    private static void promise3WhichItWas() {
        MindNet net = People.thinking(0, 1000);
        DUE.is("promise 3: 0 it was", net.think(0, 1000), 0);
        DUE.is("promise 3: 1000 it was", net.think(1, 0), 1000);
        DUE.is("promise 3: the same again", net.think(1, 0), 0);
        net.stubborn(0, true);
        DUE.is("promise 3: of a stubborn one", net.think(0, 1), 1000);
        People.dueThoughts(DUE, "promise 3", net, 1, 0);
    }

    private static void promise3Refused() {
        MindNet net = People.thinking(4, 5);
        DUE.is("promise 3: think(-1, 0)", net.think(-1, 0), MindNet.UNKNOWN);
        DUE.is("promise 3: think(2, 0)", net.think(2, 0), MindNet.UNKNOWN);
        DUE.is("promise 3: think(0, -1)", net.think(0, -1), MindNet.OUTSIDE);
        DUE.is("promise 3: think(1, 1001)", net.think(1, 1001), MindNet.OUTSIDE);
        People.dueThoughts(DUE, "promise 3: refused", net, 4, 5);
    }

    private static void promise4WhetherItWas() {
        MindNet net = People.thinking(4, 5);
        boolean[] is = {false, true, true, false, false, true};
        int[] was = {0, 0, 1, 1, 0, 0};
        for (int call = 0; call < is.length; call++) {
            DUE.is("promise 4: call " + call, net.stubborn(1, is[call]), was[call]);
            DUE.is("promise 4: it is", net.about(1, 1), is[call] ? 1 : 0);
            DUE.is("promise 4: the other is not", net.about(0, 1), 0);
        }
    }

    private static void promise4Unknown() {
        MindNet net = People.thinking(4, 5);
        DUE.is("promise 4: stubborn(-1, true)", net.stubborn(-1, true), MindNet.UNKNOWN);
        DUE.is("promise 4: stubborn(2, true)", net.stubborn(2, true), MindNet.UNKNOWN);
        DUE.is("promise 4: stubborn(2, false)", net.stubborn(2, false), MindNet.UNKNOWN);
        net.one(6);
        DUE.is("promise 4: refused ones are not", net.told(6), 0);
    }

    /** For another one (or itself): which it was. */
    private static void promise5OfItself() {
        MindNet net = People.thinking(4, 5);
        DUE.is("promise 5: of itself at first", net.weight(1, 1, 9), 1);
        DUE.is("promise 5: of itself", net.weight(1, 1, 0), 9);
        DUE.is("promise 5: of the other at first", net.weight(1, 0, 9), 0);
        DUE.is("promise 5: of the other", net.weight(1, 0, 3), 9);
        DUE.is("promise 5: each way its own", net.weight(0, 1, 1), 0);
        DUE.is("promise 5: the first one's own", net.weight(0, 0, 1), 1);
    }

    private static void promise5Refused() {
        MindNet net = People.thinking(4, 5);
        int[][] unknown = {{-1, 0}, {0, -1}, {2, 0}, {0, 2}, {2, 2}, {-1, -1}};
        for (int[] pair : unknown) {
            DUE.is("promise 5: weight(" + pair[0] + ", " + pair[1] + ", 5)", net.weight(pair[0], pair[1], 5),
                MindNet.UNKNOWN);
        }
        int[] outside = {-1, 10};
        for (int w : outside) {
            DUE.is("promise 5: weight(0, 1, " + w + ")", net.weight(0, 1, w), MindNet.OUTSIDE);
            DUE.is("promise 5: weight(0, 0, " + w + ")", net.weight(0, 0, w), MindNet.OUTSIDE);
        }
        DUE.is("promise 5: refused, for another", net.weight(0, 1, 0), 0);
        DUE.is("promise 5: refused, for itself", net.weight(0, 0, 1), 1);
    }

    private static void promise6Outside() {
        MindNet net = People.thinking(4, 5);
        DUE.is("promise 6: ear(-1)", net.ear(-1), MindNet.OUTSIDE);
        DUE.is("promise 6: ear(1001)", net.ear(1001), MindNet.OUTSIDE);
        DUE.is("promise 6: ear(0)", net.ear(0), 1000);
        DUE.is("promise 6: told(1)", net.told(1), 0);
        DUE.is("promise 6: ear(1000)", net.ear(1000), 0);
        DUE.is("promise 6: told(1)", net.told(1), 1000);
    }

    /** N ROUNDS (1 to 300). OUTSIDE. */
    private static void promise7From1To300() {
        MindNet net = People.slowing(255);
        DUE.is("promise 7: rounds(0)", net.rounds(0), MindNet.OUTSIDE);
        DUE.is("promise 7: rounds(-1)", net.rounds(-1), MindNet.OUTSIDE);
        DUE.is("promise 7: rounds(301)", net.rounds(301), MindNet.OUTSIDE);
        DUE.is("promise 7: none was done, so that 300 of 301 are", net.rounds(300), 300);
        DUE.is("promise 7: the last one", net.rounds(1), 1);
        DUE.is("promise 7: there are no more", net.rounds(1), 0);
    }

    /** How many changed something: of more than that just those. */
    private static void promise7HowManyChanged() {
        // (4, 5, 8), (4, 5, 6), (4, 5, 5), (4, 4, 5), (4, 4, 4).
        DUE.is("promise 7: as many as there are", People.inLine(0, 8, 8).rounds(300), 5);
        DUE.is("promise 7: one less", People.inLine(0, 8, 8).rounds(4), 4);
        DUE.is("promise 7: just as many", People.inLine(0, 8, 8).rounds(5), 5);
        DUE.is("promise 7: one more", People.inLine(0, 8, 8).rounds(6), 5);
        MindNet one = People.thinking(0, 8, 8);
        one.weight(0, 1, 1);
        DUE.is("promise 7: that one alone moved is a change", one.rounds(1), 1);
    }

    /** SPENT: all 300 are done then. */
    private static void promise8All300AreDone() {
        MindNet net = People.slowing(300);
        MindNet other = People.slowing(300);
        DUE.is("promise 8: settle()", net.settle(), MindNet.SPENT);
        DUE.is("promise 8: rounds(300)", other.rounds(300), 300);
        for (int one = 0; one < 7; one++) {
            DUE.is("promise 8: thought of " + one, net.about(one, 0), other.about(one, 0));
        }
        DUE.is("promise 8: as many are left", net.settle(), other.settle());
        DUE.is("promise 8: 299 and one", People.slowing(253).settle(), 300);
        DUE.is("promise 8: 300 and none", People.slowing(254).settle(), MindNet.SPENT);
    }

    /** How many it HEARS (without itself). */
    private static void promise9WithoutItself() {
        DUE.is("promise 9: one alone hears none", People.thinking(5).about(0, 2), 0);
        MindNet net = People.thinking(5, 5, 5, 5, 5, 5, 5, 5, 5, 5, 5, 5);
        DUE.is("promise 9: one of 12 hears none", net.about(11, 2), 0);
        People.weighAll(net, 9);
        DUE.is("promise 9: one of 12 hears all others", net.about(0, 2), 11);
        DUE.is("promise 9: so does the last", net.about(11, 2), 11);
        net.weight(11, 11, 0);
        DUE.is("promise 9: without an own weight too", net.about(11, 2), 11);
        net.stubborn(11, true);
        DUE.is("promise 9: the stubborn hear too", net.about(11, 2), 11);
    }

    /** The number of its group (from 0, by the least one in each). */
    private static void promise9GroupsFrom0() {
        MindNet net = People.thinking(9, 9, 9, 9, 9, 9);
        net.weight(5, 1, 1);
        net.weight(2, 4, 1);
        int[] groups = {0, 1, 2, 3, 2, 1};
        for (int one = 0; one < groups.length; one++) {
            DUE.is("promise 9: group of " + one, net.about(one, 3), groups[one]);
        }
        net.weight(0, 5, 1);
        int[] later = {0, 0, 1, 2, 1, 0};
        for (int one = 0; one < later.length; one++) {
            DUE.is("promise 9: group of " + one + " later", net.about(one, 3), later[one]);
        }
        DUE.is("promise 9: of one alone", People.thinking(3).about(0, 3), 0);
    }

    private static void promise9Refused() {
        MindNet net = People.thinking(7, 8);
        for (int what = -1; what <= 4; what++) {
            boolean outside = what < 0 || what > 3;
            DUE.is("promise 9: about(-1, " + what + ")", net.about(-1, what), MindNet.UNKNOWN);
            DUE.is("promise 9: about(2, " + what + ")", net.about(2, what), MindNet.UNKNOWN);
            DUE.is("promise 9: about(1, " + what + ") outside", net.about(1, what) == MindNet.OUTSIDE ? 1 : 0,
                outside ? 1 : 0);
        }
    }

    /** 3 SPREAD (0). */
    private static void promise10Spread0() {
        DUE.is("promise 10: spread of nobody", new MindNet().told(3), 0);
        DUE.is("promise 10: spread of one", People.thinking(700).told(3), 0);
        DUE.is("promise 10: spread of some alike", People.thinking(700, 700, 700).told(3), 0);
        DUE.is("promise 10: the least is above 0", People.thinking(700, 703).told(3), 3);
        DUE.is("promise 10: the greatest spread", People.thinking(1000, 0).told(3), 1000);
    }

    private static void promise10Outside() {
        DUE.is("promise 10: told(-1) of nobody", new MindNet().told(-1), MindNet.OUTSIDE);
        DUE.is("promise 10: told(7) of nobody", new MindNet().told(7), MindNet.OUTSIDE);
        MindNet net = People.thinking(1000, 0, 1000);
        net.stubborn(0, true);
        net.stubborn(1, true);
        net.stubborn(2, true);
        DUE.is("promise 10: told(-1)", net.told(-1), MindNet.OUTSIDE);
        DUE.is("promise 10: told(0), people", net.told(0), 3);
        DUE.is("promise 10: told(6), all are stubborn", net.told(6), 3);
        DUE.is("promise 10: told(7)", net.told(7), MindNet.OUTSIDE);
    }

    /** THOUGHTS are kept: how many. */
    private static void promise11HowMany() {
        MindNet net = new MindNet();
        for (int people = 0; people <= 12; people++) {
            DUE.is("promise 11: keep() of " + people, net.keep(), people);
            net.one(people);
        }
        net.rounds(1);
        DUE.is("promise 11: keep() of 12 again", net.keep(), 12);
    }

    /** THOUGHTS of those that were there are as they were kept (others stay): how many. */
    private static void promise12OthersStay() {
        MindNet net = People.thinking(1, 2);
        net.keep();
        net.one(3);
        for (int one = 0; one < 3; one++) {
            net.think(one, 1000);
        }
        DUE.is("promise 12: how many were there", net.back(), 2);
        People.dueThoughts(DUE, "promise 12: others stay", net, 1, 2, 1000);
        net.stubborn(0, true);
        net.think(0, 9);
        net.weight(0, 1, 4);
        net.ear(8);
        DUE.is("promise 12: again", net.back(), 2);
        DUE.is("promise 12: of the stubborn too", net.about(0, 0), 1);
        DUE.is("promise 12: that it is stubborn stays", net.about(0, 1), 1);
        DUE.is("promise 12: weights stay", net.weight(0, 1, 0), 4);
        DUE.is("promise 12: ears stay", net.told(1), 8);
        DUE.is("promise 12: people stay", net.told(0), 3);
        MindNet full = People.thinking(0, 1, 2, 3, 4, 5, 6, 7, 8, 9, 10, 11);
        full.keep();
        for (int one = 0; one < 12; one++) {
            full.think(one, 500);
        }
        DUE.is("promise 12: 12", full.back(), 12);
        People.dueThoughts(DUE, "promise 12: all of 12", full, 0, 1, 2, 3, 4, 5, 6, 7, 8, 9, 10, 11);
    }

    /** STATE: nothing was kept since the beginning. */
    private static void promise12State() {
        MindNet net = People.thinking(5);
        DUE.is("promise 12: nothing was kept", net.back(), MindNet.STATE);
        net.settle();
        net.width(0, 30, 1);
        DUE.is("promise 12: others keep nothing", net.back(), MindNet.STATE);
        DUE.is("promise 12: the thought stays", net.about(0, 0), 5);
        net.keep();
        DUE.is("promise 12: something was kept", net.back(), 1);
        DUE.is("promise 12: it still is", net.back(), 1);
        MindNet nobody = new MindNet();
        nobody.keep();
        nobody.one(3);
        DUE.is("promise 12: nobody's thoughts were kept", nobody.back(), 0);
        DUE.is("promise 12: who came later stays", nobody.about(0, 0), 3);
    }

    /** The least EAR from a to b (not below a). */
    private static void promise13NotBelowA() {
        MindNet net = People.inLine(100, 110);
        DUE.is("promise 13: width(0, 30, 1)", net.width(0, 30, 1), 10);
        DUE.is("promise 13: width(10, 10, 1)", net.width(10, 10, 1), 10);
        DUE.is("promise 13: width(11, 30, 1)", net.width(11, 30, 1), 11);
        DUE.is("promise 13: width(9, 10, 1)", net.width(9, 10, 1), 10);
        DUE.is("promise 13: width(0, 0, 2)", net.width(0, 0, 2), 0);
        DUE.is("promise 13: width(1000, 1000, 1)", net.width(1000, 1000, 1), 1000);
    }

    /** (Not more than 30 above it.) */
    private static void promise13NotMoreThan30Above() {
        MindNet net = People.inLine(0, 1000);
        DUE.is("promise 13: width(970, 1000, 1)", net.width(970, 1000, 1), 1000);
        DUE.is("promise 13: width(969, 1000, 1)", net.width(969, 1000, 1), MindNet.OUTSIDE);
        DUE.is("promise 13: width(0, 31, 12)", net.width(0, 31, 12), MindNet.OUTSIDE);
        DUE.is("promise 13: width(0, 30, 12)", net.width(0, 30, 12), 0);
        MindNet near = People.inLine(0, 30);
        DUE.is("promise 13: 30 above", near.width(0, 30, 1), 30);
        DUE.is("promise 13: 29 above", near.width(0, 29, 1), MindNet.NONE);
    }

    /** With which PEOPLE, settled, stand in g groups at most. */
    private static void promise13GroupsAtMost() {
        MindNet net = People.inLine(0, 7, 30);
        net.stubborn(0, true);
        net.stubborn(1, true);
        net.stubborn(2, true);
        DUE.is("promise 13: 3 at most", net.width(0, 30, 3), 0);
        DUE.is("promise 13: 2 at most", net.width(0, 30, 2), 7);
        DUE.is("promise 13: 1 at most", net.width(0, 30, 1), 23);
        DUE.is("promise 13: 12 at most", net.width(0, 30, 12), 0);
        DUE.is("promise 13: nobody stands in 0 groups", new MindNet().width(1000, 1000, 1), 1000);
    }

    /** Settled from THOUGHTS as they are: some go apart, some come near. */
    private static void promise13Settled() {
        MindNet apart = People.thinking(0, 10, 20);
        apart.stubborn(0, true);
        apart.weight(1, 0, 9);
        apart.weight(2, 1, 1);
        apart.weight(2, 2, 9);
        // One round: 1 comes to 1, 2 to 19, so that they need ears of 18; as they stand 10 would do.
        DUE.is("promise 13: settled apart", apart.width(10, 30, 1), 18);
        DUE.is("promise 13: settled apart, below", apart.width(10, 17, 1), MindNet.NONE);
        MindNet near = People.thinking(0, 10, 19);
        near.stubborn(1, true);
        near.stubborn(2, true);
        near.weight(0, 1, 9);
        near.weight(0, 2, 1);
        // With ears of 10 the first comes to 9 by the second, and hears the last from there.
        DUE.is("promise 13: settled near", near.width(9, 30, 1), 10);
        near.ear(10);
        DUE.is("promise 13: as they stand", near.told(2), 2);
    }

    /** NONE. */
    private static void promise13None() {
        MindNet net = People.thinking(0, 0);
        DUE.is("promise 13: two without weights", net.width(0, 30, 1), MindNet.NONE);
        DUE.is("promise 13: at the widest", net.width(1000, 1000, 1), MindNet.NONE);
        MindNet twelve = People.thinking(0, 0, 0, 0, 0, 0, 0, 0, 0, 0, 0, 0);
        DUE.is("promise 13: 12 groups, 12 at most", twelve.width(0, 0, 12), 0);
        DUE.is("promise 13: 12 groups, 11 at most", twelve.width(0, 0, 11), MindNet.NONE);
    }

    /** (THOUGHTS, EAR stay.) */
    private static void promise13AllStay() {
        MindNet net = People.inLine(0, 20, 55);
        net.ear(44);
        net.keep();
        net.think(0, 10);
        net.fewest(2, 10);
        DUE.is("promise 13: found", net.width(0, 30, 2), 10);
        People.dueThoughts(DUE, "promise 13: thoughts stay", net, 10, 20, 55);
        DUE.is("promise 13: ear stays", net.told(1), 44);
        DUE.is("promise 13: not found", net.width(0, 9, 2), MindNet.NONE);
        People.dueThoughts(DUE, "promise 13: thoughts stay, none", net, 10, 20, 55);
        DUE.is("promise 13: ear stays, none", net.told(1), 44);
        DUE.is("promise 13: kinds that were found stay", net.found(), 1);
        net.back();
        People.dueThoughts(DUE, "promise 13: what was kept stays", net, 0, 20, 55);
    }

    /** (What is SPENT does not count.) */
    private static void promise13Spent() {
        DUE.is("promise 13: 300 rounds to settle", People.slowing(253).width(1000, 1000, 1), 1000);
        DUE.is("promise 13: more than 300", People.slowing(254).width(1000, 1000, 1), MindNet.NONE);
        MindNet net = People.inLine(1, 2);
        net.weight(0, 0, 0);
        net.weight(1, 1, 0);
        DUE.is("promise 13: that swap for ever", net.width(1, 30, 2), MindNet.NONE);
        DUE.is("promise 13: that do not hear one another", net.width(0, 30, 2), 0);
        net.one(22);
        net.weight(2, 1, 9);
        net.stubborn(0, true);
        DUE.is("promise 13: settled with one stubborn", net.width(1, 30, 2), 1);
        People.dueThoughts(DUE, "promise 13: thoughts stay, spent", net, 1, 2, 22);
    }

    /** OUTSIDE: a, b 0 to 1000, b from a to a and 30, g 1 to 12. */
    private static void promise13Outside() {
        MindNet net = People.inLine(0, 10);
        int[][] outside = {{-1, 0, 1}, {-1, -1, 1}, {-30, 0, 1}, {1000, 1001, 1}, {1001, 1001, 1}, {980, 1001, 1},
            {1, 0, 1}, {1000, 999, 1}, {0, 31, 1}, {969, 1000, 1}, {0, 1000, 1}, {0, 30, 0}, {0, 30, 13},
            {0, 30, -1}};
        for (int[] row : outside) {
            DUE.is("promise 13: width(" + row[0] + ", " + row[1] + ", " + row[2] + ")",
                net.width(row[0], row[1], row[2]), MindNet.OUTSIDE);
        }
        DUE.is("promise 13: width(0, 0, 1)", net.width(0, 0, 1), MindNet.NONE);
        DUE.is("promise 13: width(0, 30, 1)", net.width(0, 30, 1), 10);
        DUE.is("promise 13: width(1000, 1000, 12)", net.width(1000, 1000, 12), 1000);
        DUE.is("promise 13: width(970, 1000, 1)", net.width(970, 1000, 1), 970);
    }

    /** To itself by others or its own WEIGHT. */
    private static void promise14ToItself() {
        MindNet net = People.thinking(1, 2, 3);
        DUE.is("promise 14: by its own weight", net.leads(0, 0), 1);
        net.weight(0, 0, 0);
        DUE.is("promise 14: by nobody", net.leads(0, 0), 0);
        net.weight(1, 0, 1);
        DUE.is("promise 14: to one that does not lead back", net.leads(0, 0), 0);
        net.weight(0, 1, 1);
        DUE.is("promise 14: by one other", net.leads(0, 0), 1);
        net.weight(0, 1, 0);
        net.weight(2, 1, 1);
        DUE.is("promise 14: by two, not yet around", net.leads(0, 0), 0);
        net.weight(0, 2, 1);
        DUE.is("promise 14: by two others", net.leads(0, 0), 1);
    }

    private static void promise14Unknown() {
        MindNet net = People.thinking(1, 2);
        int[][] unknown = {{-1, 0}, {0, -1}, {2, 0}, {0, 2}, {2, 2}, {-1, -1}};
        for (int[] pair : unknown) {
            DUE.is("promise 14: leads(" + pair[0] + ", " + pair[1] + ")", net.leads(pair[0], pair[1]),
                MindNet.UNKNOWN);
        }
        DUE.is("promise 14: leads(1, 1)", net.leads(1, 1), 1);
    }

    /** Upper (what = 0), lower number (1), in lowest terms. */
    private static void promise15LowestTerms() {
        MindNet net = People.thinking(1, 2, 3, 4);
        People.weighAll(net, 6);
        for (int one = 0; one < 4; one++) {
            DUE.is("promise 15: upper", net.share(one, 0), 1);
            DUE.is("promise 15: lower", net.share(one, 1), 4);
        }
        for (int other = 1; other < 4; other++) {
            net.weight(other, 0, 9);
        }
        // What the first gives, 18 of 24 parts of its share, is 9 of 27 parts of what all others have: 4 to 9.
        DUE.is("promise 15: upper, 4 of 13", net.share(0, 0), 4);
        DUE.is("promise 15: lower, 4 of 13", net.share(0, 1), 13);
        DUE.is("promise 15: upper, 3 of 13", net.share(3, 0), 3);
        DUE.is("promise 15: lower, 3 of 13", net.share(3, 1), 13);
    }

    /** UNKNOWN, OUTSIDE, NO: there are none (LOST less 1, 2, 5). */
    private static void promise15Refused() {
        MindNet net = People.inLine(0, 900);
        for (int what = 0; what <= 1; what++) {
            DUE.is("promise 15: share(-1, " + what + ")", net.share(-1, what), LOST_UNKNOWN);
            DUE.is("promise 15: share(2, " + what + ")", net.share(2, what), LOST_UNKNOWN);
        }
        DUE.is("promise 15: share(0, -1)", net.share(0, -1), LOST_OUTSIDE);
        DUE.is("promise 15: share(0, 2)", net.share(0, 2), LOST_OUTSIDE);
        DUE.is("promise 15: share(1, 1)", net.share(1, 1), 2);
        net.weight(1, 0, 0);
        DUE.is("promise 15: share(0, 0), there are none", net.share(0, 0), LOST_NO);
        DUE.is("promise 15: share(1, 1), there are none", net.share(1, 1), LOST_NO);
        DUE.is("promise 15: share(2, 0), there are none", net.share(2, 0), LOST_UNKNOWN);
        DUE.is("promise 15: share(1, 2), there are none", net.share(1, 2), LOST_OUTSIDE);
    }

    /** Upper, lower number, likewise. */
    private static void promise16LowestTerms() {
        MindNet net = People.inLine(0, 0);
        DUE.is("promise 16: nothing, upper", net.end(0), 0);
        DUE.is("promise 16: nothing, lower", net.end(1), 1);
        net.think(0, 1000);
        DUE.is("promise 16: 1000 by 2, upper", net.end(0), 500);
        DUE.is("promise 16: 1000 by 2, lower", net.end(1), 1);
        net.think(1, 999);
        DUE.is("promise 16: 1999 by 2, upper", net.end(0), 1999);
        DUE.is("promise 16: 1999 by 2, lower", net.end(1), 2);
        net.think(1, 1000);
        DUE.is("promise 16: the most, upper", net.end(0), 1000);
        DUE.is("promise 16: the most, lower", net.end(1), 1);
    }

    private static void promise16Refused() {
        MindNet net = People.inLine(0, 900);
        DUE.is("promise 16: end(-1)", net.end(-1), LOST_OUTSIDE);
        DUE.is("promise 16: end(2)", net.end(2), LOST_OUTSIDE);
        net.weight(0, 1, 0);
        DUE.is("promise 16: end(0), there are none", net.end(0), LOST_NO);
        DUE.is("promise 16: end(1), there are none", net.end(1), LOST_NO);
        DUE.is("promise 16: end(2), there are none", net.end(2), LOST_OUTSIDE);
        DUE.is("promise 16: end(-1), there are none", net.end(-1), LOST_OUTSIDE);
    }

    /** In lowest terms. */
    private static void promise17LowestTerms() {
        MindNet net = People.inLine(0, 1, 1000);
        net.stubborn(0, true);
        net.stubborn(2, true);
        DUE.is("promise 17: 1000 by 2, upper", net.rest(1, 0), 500);
        DUE.is("promise 17: 1000 by 2, lower", net.rest(1, 1), 1);
        DUE.is("promise 17: nothing, upper", net.rest(0, 0), 0);
        DUE.is("promise 17: nothing, lower", net.rest(0, 1), 1);
        net.weight(1, 0, 6);
        net.weight(1, 2, 9);
        net.think(2, 1);
        DUE.is("promise 17: 9 by 15, upper", net.rest(1, 0), 3);
        DUE.is("promise 17: 9 by 15, lower", net.rest(1, 1), 5);
        DUE.is("promise 17: a whole one, upper", net.rest(2, 0), 1);
        DUE.is("promise 17: a whole one, lower", net.rest(2, 1), 1);
    }

    /** UNKNOWN, OUTSIDE, NO: it is not told (LOST less 1, 2, 5). */
    private static void promise17Refused() {
        MindNet net = People.inLine(0, 900);
        for (int told = 0; told <= 1; told++) {
            net.stubborn(0, told == 1);
            DUE.is("promise 17: rest(-1, 0)", net.rest(-1, 0), LOST_UNKNOWN);
            DUE.is("promise 17: rest(2, 2)", net.rest(2, 2), LOST_UNKNOWN);
            DUE.is("promise 17: rest(0, -1)", net.rest(0, -1), LOST_OUTSIDE);
            DUE.is("promise 17: rest(1, 2)", net.rest(1, 2), LOST_OUTSIDE);
            DUE.is("promise 17: rest(1, 0)", net.rest(1, 0), told == 1 ? 0 : LOST_NO);
            DUE.is("promise 17: rest(0, 1)", net.rest(0, 1), told == 1 ? 1 : LOST_NO);
        }
        net.weight(1, 0, 0);
        DUE.is("promise 17: not told of the stubborn one either", net.rest(0, 0), LOST_NO);
    }

    /** The greatest PULL (of several the first), of those that are not STUBBORN. */
    private static void promise18OfSeveralTheFirst() {
        MindNet net = People.thinking(0, 5, 5, 5);
        net.stubborn(0, true);
        for (int one = 1; one < 4; one++) {
            net.weight(one, 0, 1);
        }
        DUE.is("promise 18: of three the first", net.pull(1000), 1);
        DUE.is("promise 18: of three the first, at 0", net.pull(0), 1);
        net.weight(1, 2, 1);
        net.weight(1, 3, 1);
        DUE.is("promise 18: of two the first", net.pull(1000), 2);
        MindNet last = People.inLine(9, 9, 0);
        last.stubborn(2, true);
        DUE.is("promise 18: the first of all is 0", last.pull(0), 0);
        DUE.is("promise 18: the one between", last.pull(500), 1);
    }

    private static void promise18Outside() {
        MindNet net = People.inLine(0, 5, 5);
        net.stubborn(0, true);
        DUE.is("promise 18: pull(-1)", net.pull(-1), MindNet.OUTSIDE);
        DUE.is("promise 18: pull(1001)", net.pull(1001), MindNet.OUTSIDE);
        DUE.is("promise 18: pull(0)", net.pull(0), 1);
        DUE.is("promise 18: pull(1000)", net.pull(1000), 1);
    }

    /** NO: REST is not told now. */
    private static void promise18RestIsNotTold() {
        DUE.is("promise 18: nobody", new MindNet().pull(0), MindNet.NO);
        MindNet net = People.inLine(1, 2, 3, 4, 5, 6, 7, 8);
        DUE.is("promise 18: none is stubborn", net.pull(0), MindNet.NO);
        net.stubborn(7, true);
        DUE.is("promise 18: seven move now, six would", net.pull(0), MindNet.NO);
        net.stubborn(0, true);
        DUE.is("promise 18: six move", net.pull(0), 1);
        net.weight(4, 3, 0);
        net.weight(4, 5, 0);
        DUE.is("promise 18: nobody leads to 4", net.pull(1000), MindNet.NO);
    }

    /** NO: none would be left to move (all others are STUBBORN). */
    private static void promise18NoneLeftToMove() {
        MindNet net = People.inLine(0, 5, 5);
        net.stubborn(0, true);
        DUE.is("promise 18: one would be left", net.pull(1000), 1);
        net.stubborn(1, true);
        DUE.is("promise 18: rest is told", net.rest(2, 0), 5);
        DUE.is("promise 18: none would be left", net.pull(1000), MindNet.NO);
        net.stubborn(2, true);
        DUE.is("promise 18: none is left", net.pull(1000), MindNet.NO);
        DUE.is("promise 18: one alone", People.thinking(5).pull(5), MindNet.NO);
    }

    /** UNKNOWN: also they are one. */
    private static void promise19TheyAreOne() {
        MindNet net = People.thinking(3, 8);
        int[][] unknown = {{0, 0}, {1, 1}, {2, 2}, {-1, -1}, {-1, 0}, {0, -1}, {2, 0}, {0, 2}};
        for (int[] pair : unknown) {
            DUE.is("promise 19: talk(" + pair[0] + ", " + pair[1] + ")", net.talk(pair[0], pair[1]), MindNet.UNKNOWN);
        }
        People.dueThoughts(DUE, "promise 19: refused", net, 3, 8);
    }

    /** (STUBBORN ones talk as others.) */
    private static void promise19StubbornOnes() {
        MindNet net = People.thinking(3, 8);
        net.stubborn(0, true);
        net.stubborn(1, true);
        net.ear(0);
        DUE.is("promise 19: stubborn ones", net.talk(0, 1), 5);
        People.dueThoughts(DUE, "promise 19: stubborn ones", net, 5, 6);
        DUE.is("promise 19: they stay so", net.told(6), 2);
        net.think(0, 0);
        DUE.is("promise 20: stubborn ones talk as others", net.fewest(2, 0), 1);
    }

    /** The size of the difference that was. */
    private static void promise19Difference() {
        MindNet net = People.thinking(0, 1000);
        DUE.is("promise 19: the greatest", net.talk(0, 1), 1000);
        DUE.is("promise 19: none", net.talk(0, 1), 0);
        net.think(0, 501);
        DUE.is("promise 19: the first is greater", net.talk(0, 1), 1);
        People.dueThoughts(DUE, "promise 19: one apart", net, 501, 500);
        DUE.is("promise 19: the second is greater", net.talk(1, 0), 1);
        People.dueThoughts(DUE, "promise 19: one apart again", net, 501, 500);
    }

    /** OUTSIDE (ahead here): n, d (0 to 1000). */
    private static void promise20OutsideAhead() {
        MindNet nobody = new MindNet();
        MindNet net = People.thinking(0, 10, 20, 30, 40);
        int[][] outside = {{1, 0}, {5, 0}, {0, 0}, {-1, 0}, {2, -1}, {2, 1001}, {4, 1001}, {1, 1001}, {5, -1}};
        for (int[] row : outside) {
            String call = "promise 20: fewest(" + row[0] + ", " + row[1] + ")";
            DUE.is(call, net.fewest(row[0], row[1]), MindNet.OUTSIDE);
            DUE.is(call + " of nobody", nobody.fewest(row[0], row[1]), MindNet.OUTSIDE);
        }
        DUE.is("promise 20: fewest(2, 0)", net.fewest(2, 0), 1);
        DUE.is("promise 20: fewest(4, 1000)", net.fewest(4, 1000), 0);
    }

    /** UNKNOWN: there are fewer than n. */
    private static void promise20FewerThanN() {
        MindNet net = new MindNet();
        for (int people = 0; people <= 5; people++) {
            for (int n = 2; n <= 4; n++) {
                DUE.is("promise 20: fewest(" + n + ", 1000) of " + people, net.fewest(n, 1000),
                    people < n ? MindNet.UNKNOWN : 0);
            }
            net.one(people);
        }
    }

    /** SPENT; NONE: it can not be. */
    private static void promise20SpentAndNone() {
        DUE.is("promise 20: an odd sum", People.thinking(0, 1).fewest(2, 0), MindNet.NONE);
        DUE.is("promise 20: an even sum", People.thinking(0, 2).fewest(2, 0), 1);
        DUE.is("promise 20: already", People.thinking(0, 1).fewest(2, 1), 0);
        DUE.is("promise 20: it can not be, after all 500", People.thinking(31, 52, 37, 34).fewest(4, 0), MindNet.NONE);
        DUE.is("promise 20: it could not be, after 501", People.thinking(1, 8, 19, 17).fewest(4, 0), MindNet.SPENT);
        // (10, 8, 10, 17), (10, 12, 10, 13), (11, 12, 10, 12).
        DUE.is("promise 20: near enough before that", People.thinking(1, 8, 19, 17).fewest(4, 2), 3);
    }

    /** (THOUGHTS stay.) */
    private static void promise20ThoughtsStay() {
        MindNet net = People.thinking(1000, 0, 777, 1);
        net.fewest(4, 1);
        net.fewest(4, 0);
        net.fewest(2, 0);
        net.fewest(3, 999);
        People.dueThoughts(DUE, "promise 20: thoughts stay", net, 1000, 0, 777, 1);
    }

    /** Kinds of THOUGHTS that were come to (0). */
    private static void promise21AtFirst() {
        MindNet net = People.thinking(0, 10);
        DUE.is("promise 21: at first", net.found(), 0);
        net.talk(0, 1);
        DUE.is("promise 21: a talk is no search", net.found(), 0);
        net.fewest(2, 1001);
        net.fewest(3, 0);
        DUE.is("promise 21: nor is what was refused", net.found(), 0);
    }

    /** In the latest fewest(). */
    private static void promise21TheLatest() {
        MindNet net = People.thinking(0, 10, 777, 2);
        net.fewest(2, 9);
        DUE.is("promise 21: of one talk", net.found(), 2);
        DUE.is("promise 21: told again", net.found(), 2);
        net.fewest(2, 10);
        DUE.is("promise 21: of none", net.found(), 1);
        net.fewest(4, 0);
        DUE.is("promise 21: of too many", net.found(), 500);
        net.fewest(5, 0);
        DUE.is("promise 21: refused after it", net.found(), 500);
        net.think(0, 9);
        net.fewest(2, 0);
        DUE.is("promise 21: where it can not be", net.found(), 1);
        MindNet two = People.thinking(0, 10);
        two.fewest(2, 9);
        two.fewest(3, 9);
        DUE.is("promise 21: refused as unknown after it", two.found(), 2);
    }

    /** What earlier searches came to does not count: each is as the first one of an object. */
    private static void promise21NoneOfTheEarlier() {
        MindNet net = People.thinking(0, 0, 0, 0);
        for (int search = 0; search < 60; search++) {
            int[] thoughts = {search * 37 % 89, search * 601 % 997, search * 7, 1};
            for (int one = 0; one < 4; one++) {
                net.think(one, thoughts[one]);
            }
            // The long search comes to all that the short one comes to behind it.
            for (int d = 0; d < 3; d += 2) {
                MindNet other = People.thinking(thoughts);
                DUE.is("promise 20: search " + search + " to " + d, net.fewest(4, d), other.fewest(4, d));
                DUE.is("promise 21: search " + search + " to " + d, net.found(), other.found());
            }
        }
    }
}
