/** Promises 1 to 6 and 9 to 12: people, what is told of them, and thoughts that are kept. */
public final class PeopleTest {
    private static final Due DUE = new Due("PeopleTest");

    public static void main(String[] args) {
        aNewObject();
        one();
        think();
        stubborn();
        weight();
        ear();
        aboutThoughtsAndHearing();
        aboutGroups();
        told();
        keepAndBack();
        DUE.close();
    }

    private static void aNewObject() {
        MindNet net = new MindNet();
        int[] told = {0, 1000, 0, 0, 0, 0, 0};
        for (int what = 0; what < told.length; what++) {
            DUE.is("promise 1: told(" + what + ")", net.told(what), told[what]);
        }
        DUE.is("promise 1: think(0, 0)", net.think(0, 0), MindNet.UNKNOWN);
        DUE.is("promise 1: found()", net.found(), 0);
        DUE.is("promise 1: back()", net.back(), MindNet.STATE);
        DUE.is("promise 1: settle()", net.settle(), 1);
        MindNet other = new MindNet();
        other.one(5);
        other.ear(7);
        DUE.is("promise 1: people of one object are not another's", net.told(0), 0);
        DUE.is("promise 1: ears of one object are not another's", new MindNet().told(1), 1000);
    }

    private static void one() {
        MindNet net = new MindNet();
        DUE.is("promise 2: one(-1)", net.one(-1), MindNet.OUTSIDE);
        DUE.is("promise 2: one(1001)", net.one(1001), MindNet.OUTSIDE);
        DUE.is("promise 2: refused ones do not come", net.told(0), 0);
        for (int number = 0; number < 12; number++) {
            DUE.is("promise 2: one", net.one(number == 0 ? 0 : 1000), number);
        }
        DUE.is("promise 2: the 13th", net.one(3), MindNet.FULL);
        DUE.is("promise 2: the 13th, outside", net.one(1001), MindNet.OUTSIDE);
        DUE.is("promise 2: people", net.told(0), 12);
        for (int number = 0; number < 12; number++) {
            DUE.is("promise 2: thought", net.about(number, 0), number == 0 ? 0 : 1000);
            DUE.is("promise 2: at first not stubborn", net.about(number, 1), 0);
            for (int other = 0; other < 12; other++) {
                DUE.is("promise 2: weight at first", net.weight(number, other, 1), number == other ? 1 : 0);
            }
        }
    }

    private static void think() {
        MindNet net = People.thinking(7, 8);
        DUE.is("promise 3: think(0, 1000)", net.think(0, 1000), 7);
        DUE.is("promise 3: think(0, 0)", net.think(0, 0), 1000);
        DUE.is("promise 3: think(0, 1001)", net.think(0, 1001), MindNet.OUTSIDE);
        DUE.is("promise 3: think(0, -1)", net.think(0, -1), MindNet.OUTSIDE);
        DUE.is("promise 3: think(2, 1)", net.think(2, 1), MindNet.UNKNOWN);
        DUE.is("promise 3: think(-1, -1)", net.think(-1, -1), MindNet.UNKNOWN);
        People.dueThoughts(DUE, "promise 3", net, 0, 8);
        net.stubborn(1, true);
        DUE.is("promise 3: a stubborn one is told too", net.think(1, 9), 8);
        People.dueThoughts(DUE, "promise 3: stubborn", net, 0, 9);
    }

    private static void stubborn() {
        MindNet net = People.thinking(7, 8);
        DUE.is("promise 4: stubborn(1, true)", net.stubborn(1, true), 0);
        DUE.is("promise 4: stubborn(1, true) again", net.stubborn(1, true), 1);
        DUE.is("promise 4: about(1, 1)", net.about(1, 1), 1);
        DUE.is("promise 4: about(0, 1)", net.about(0, 1), 0);
        DUE.is("promise 4: told(6)", net.told(6), 1);
        DUE.is("promise 4: stubborn(1, false)", net.stubborn(1, false), 1);
        DUE.is("promise 4: stubborn(1, false) again", net.stubborn(1, false), 0);
        DUE.is("promise 4: stubborn(2, true)", net.stubborn(2, true), MindNet.UNKNOWN);
        DUE.is("promise 4: stubborn(-1, true)", net.stubborn(-1, true), MindNet.UNKNOWN);
        net.one(1);
        DUE.is("promise 4: one that came later", net.about(2, 1), 0);
    }

    private static void weight() {
        MindNet net = People.thinking(7, 8);
        DUE.is("promise 5: weight(0, 1, 9)", net.weight(0, 1, 9), 0);
        DUE.is("promise 5: weight(0, 1, 0)", net.weight(0, 1, 0), 9);
        DUE.is("promise 5: weight(1, 0, 0)", net.weight(1, 0, 0), 0);
        DUE.is("promise 5: weight(0, 0, 4)", net.weight(0, 0, 4), 1);
        DUE.is("promise 5: weight(0, 0, 0)", net.weight(0, 0, 0), 4);
        DUE.is("promise 5: weight(0, 1, 10)", net.weight(0, 1, 10), MindNet.OUTSIDE);
        DUE.is("promise 5: weight(0, 1, -1)", net.weight(0, 1, -1), MindNet.OUTSIDE);
        DUE.is("promise 5: weight(2, 1, 10)", net.weight(2, 1, 10), MindNet.UNKNOWN);
        DUE.is("promise 5: weight(1, 2, 10)", net.weight(1, 2, 10), MindNet.UNKNOWN);
        DUE.is("promise 5: weight(-1, 0, 1)", net.weight(-1, 0, 1), MindNet.UNKNOWN);
        DUE.is("promise 5: weight(0, -1, 1)", net.weight(0, -1, 1), MindNet.UNKNOWN);
        DUE.is("promise 5: refused weights change nothing", net.weight(0, 1, 2), 0);
    }

    private static void ear() {
        MindNet net = new MindNet();
        DUE.is("promise 6: ear(0)", net.ear(0), 1000);
        DUE.is("promise 6: ear(1001)", net.ear(1001), MindNet.OUTSIDE);
        DUE.is("promise 6: ear(-1)", net.ear(-1), MindNet.OUTSIDE);
        DUE.is("promise 6: ear(1000)", net.ear(1000), 0);
        DUE.is("promise 6: told(1)", net.told(1), 1000);
    }

    private static void aboutThoughtsAndHearing() {
        MindNet net = People.thinking(100, 150, 151);
        net.weight(0, 1, 1);
        net.weight(0, 2, 9);
        DUE.is("promise 9: hears two", net.about(0, 2), 2);
        net.ear(50);
        DUE.is("promise 9: hears one at its ear's edge", net.about(0, 2), 1);
        net.ear(49);
        DUE.is("promise 9: hears none", net.about(0, 2), 0);
        DUE.is("promise 9: weights go one way", net.about(1, 2), 0);
        net.weight(2, 0, 1);
        net.ear(51);
        DUE.is("promise 9: hears the first", net.about(2, 2), 1);
        net.weight(0, 0, 0);
        net.ear(1000);
        DUE.is("promise 9: itself never counts", net.about(0, 2), 2);
        DUE.is("promise 9: thought", net.about(2, 0), 151);
        DUE.is("promise 9: about(3, 0)", net.about(3, 0), MindNet.UNKNOWN);
        DUE.is("promise 9: about(3, 9)", net.about(3, 9), MindNet.UNKNOWN);
        DUE.is("promise 9: about(-1, 0)", net.about(-1, 0), MindNet.UNKNOWN);
        DUE.is("promise 9: about(0, 4)", net.about(0, 4), MindNet.OUTSIDE);
        DUE.is("promise 9: about(0, -1)", net.about(0, -1), MindNet.OUTSIDE);
    }

    private static void aboutGroups() {
        MindNet net = People.thinking(0, 10, 20, 30, 40);
        net.weight(4, 0, 1);
        net.weight(1, 3, 1);
        int[] groups = {0, 1, 2, 1, 0};
        for (int one = 0; one < groups.length; one++) {
            DUE.is("promise 9: group of " + one, net.about(one, 3), groups[one]);
        }
        DUE.is("promise 10: groups", net.told(2), 3);
        net.weight(3, 4, 1);
        DUE.is("promise 10: groups hang on by others", net.told(2), 2);
        DUE.is("promise 9: group by the least one", net.about(3, 3), 0);
        DUE.is("promise 9: group of the lonely", net.about(2, 3), 1);
        net.ear(39);
        DUE.is("promise 9: too far to hang together", net.about(4, 3), 1);
        DUE.is("promise 9: the lonely come after", net.about(2, 3), 2);
        net.ear(40);
        DUE.is("promise 9: just near enough", net.about(4, 3), 0);
    }

    private static void told() {
        MindNet net = People.thinking(100, 700, 400);
        net.ear(321);
        net.stubborn(2, true);
        net.stubborn(0, true);
        int[] told = {3, 321, 3, 600, 1200, 1200, 2};
        for (int what = 0; what < told.length; what++) {
            DUE.is("promise 10: told(" + what + ")", net.told(what), told[what]);
        }
        DUE.is("promise 10: told(7)", net.told(7), MindNet.OUTSIDE);
        DUE.is("promise 10: told(-1)", net.told(-1), MindNet.OUTSIDE);
        net.think(1, 450);
        DUE.is("promise 10: spread", net.told(3), 350);
        DUE.is("promise 10: discord", net.told(4), 350 + 300 + 50);
        DUE.is("promise 10: sum", net.told(5), 950);
        DUE.is("promise 10: spread with the first between", People.thinking(500, 1000, 2, 3).told(3), 998);
        DUE.is("promise 10: spread of one", People.thinking(9).told(3), 0);
    }

    private static void keepAndBack() {
        MindNet net = People.thinking(1, 2);
        DUE.is("promise 12: back() with nothing kept", net.back(), MindNet.STATE);
        DUE.is("promise 11: keep()", net.keep(), 2);
        net.think(0, 500);
        net.one(3);
        net.stubborn(1, true);
        net.think(1, 77);
        net.think(2, 600);
        DUE.is("promise 12: back()", net.back(), 2);
        People.dueThoughts(DUE, "promise 12: others stay", net, 1, 2, 600);
        DUE.is("promise 12: stubborn ones stay so", net.about(1, 1), 1);
        net.think(0, 9);
        DUE.is("promise 12: back() again", net.back(), 2);
        DUE.is("promise 12: as kept again", net.about(0, 0), 1);
        net.think(1, 44);
        DUE.is("promise 11: keep() again", net.keep(), 3);
        net.think(1, 45);
        net.think(2, 46);
        DUE.is("promise 12: back() to the later ones", net.back(), 3);
        People.dueThoughts(DUE, "promise 12: later", net, 1, 44, 600);
        MindNet empty = new MindNet();
        DUE.is("promise 11: keep() of none", empty.keep(), 0);
        DUE.is("promise 12: back() of none", empty.back(), 0);
    }
}
