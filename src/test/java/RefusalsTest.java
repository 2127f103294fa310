import java.util.ArrayList;
import java.util.List;
import java.util.function.Supplier;
import java.util.function.ToLongFunction;

/**
 * Terms: "Calls that are refused answer, the first of these that fits", and "They change nothing"; numbers as far
 * out as an int goes, at each place where a call takes one.
 */
public final class RefusalsTest {
    private static final Due DUE = new Due("RefusalsTest");
    private static final long LOST_UNKNOWN = -1000000000000000001L;
    private static final long LOST_OUTSIDE = -1000000000000000002L;
    private static final long LOST_NO = -1000000000000000005L;
    /** Those in the middle come back into the bounds, if an int is cut to fewer bits or a sum wraps around. */
    private static final int[] FAR = {Integer.MIN_VALUE, Integer.MIN_VALUE + 1, Integer.MIN_VALUE + 30, -(1 << 16),
        -(1 << 16) + 1, -256, -255, -31, -12, -3, -2, 1002, 1023, 1024, 1 << 16, (1 << 16) + 1, 1 << 30, (1 << 30) + 1,
        Integer.MAX_VALUE - 30, Integer.MAX_VALUE - 1, Integer.MAX_VALUE};

    private record Refused(String call, ToLongFunction<MindNet> made, long due) {
    }

    private static final List<Refused> CALLS = new ArrayList<>();

    public static void main(String[] args) {
        unknownAheadOfOutside();
        outsideAlone();
        outsideAheadOfFull();
        outsideAheadOfNo();
        outsideAheadOfUnknown();
        farNumbers();
        DUE.holds("terms: of a few share and rest are told", few().share(0, 1) > 0 && few().rest(0, 1) > 0);
        theyChangeNothing("nobody", MindNet::new);
        theyChangeNothing("a few", RefusalsTest::few);
        theyChangeNothing("all twelve", RefusalsTest::twelve);
        whatIsRefusedByState();
        DUE.close();
    }

    private static void dueRefused(String call, ToLongFunction<MindNet> made, long due) {
        CALLS.add(new Refused(call, made, due));
    }

    /** Six people of whom nothing is as at first, with a search and a keep() behind them; shares and rest are told. */
    private static MindNet few() {
        MindNet net = People.inLine(3, 900, 14, 15, 926, 535);
        net.weight(0, 3, 7);
        net.weight(5, 0, 2);
        net.weight(2, 2, 0);
        net.ear(897);
        net.keep();
        net.think(4, 9);
        net.stubborn(1, true);
        net.stubborn(5, true);
        net.fewest(3, 20);
        return net;
    }

    private static MindNet twelve() {
        MindNet net = few();
        for (int one = 6; one < 12; one++) {
            net.one(one * 80);
            net.weight(one, one - 1, one - 3);
            net.stubborn(one, one % 2 == 0);
        }
        return net;
    }

    /** UNKNOWN goes ahead of OUTSIDE (there is no number 12 or -1 in any of the objects here). */
    private static void unknownAheadOfOutside() {
        for (int nobody : new int[] {-1, 12, Integer.MAX_VALUE, Integer.MIN_VALUE}) {
            String who = "(" + nobody;
            dueRefused("think" + who + ", 1001)", net -> net.think(nobody, 1001), MindNet.UNKNOWN);
            dueRefused("weight" + who + ", 0, 10)", net -> net.weight(nobody, 0, 10), MindNet.UNKNOWN);
            dueRefused("weight(0, ..)" + who, net -> net.weight(0, nobody, -1), MindNet.UNKNOWN);
            dueRefused("about" + who + ", 4)", net -> net.about(nobody, 4), MindNet.UNKNOWN);
            dueRefused("share" + who + ", 2)", net -> net.share(nobody, 2), LOST_UNKNOWN);
            dueRefused("rest" + who + ", 2)", net -> net.rest(nobody, 2), LOST_UNKNOWN);
            dueRefused("stubborn" + who + ", true)", net -> net.stubborn(nobody, true), MindNet.UNKNOWN);
            dueRefused("leads" + who + ", 0)", net -> net.leads(nobody, 0), MindNet.UNKNOWN);
            dueRefused("leads(0, ..)" + who, net -> net.leads(0, nobody), MindNet.UNKNOWN);
            dueRefused("talk" + who + ", 0)", net -> net.talk(nobody, 0), MindNet.UNKNOWN);
            dueRefused("talk(0, ..)" + who, net -> net.talk(0, nobody), MindNet.UNKNOWN);
            dueRefused("talk, both" + who, net -> net.talk(nobody, nobody), MindNet.UNKNOWN);
        }
        dueRefused("talk(0, 0)", net -> net.talk(0, 0), MindNet.UNKNOWN);
        dueRefused("talk(5, 5)", net -> net.talk(5, 5), MindNet.UNKNOWN);
    }

    /** OUTSIDE alone, whoever is there. */
    private static void outsideAlone() {
        dueRefused("width(1, 0, 1)", net -> net.width(1, 0, 1), MindNet.OUTSIDE);
        dueRefused("width(0, 31, 12)", net -> net.width(0, 31, 12), MindNet.OUTSIDE);
        dueRefused("width(-1, 0, 1)", net -> net.width(-1, 0, 1), MindNet.OUTSIDE);
        dueRefused("width(1000, 1001, 1)", net -> net.width(1000, 1001, 1), MindNet.OUTSIDE);
        dueRefused("width(0, 0, 0)", net -> net.width(0, 0, 0), MindNet.OUTSIDE);
        dueRefused("width(0, 0, 13)", net -> net.width(0, 0, 13), MindNet.OUTSIDE);
        dueRefused("rounds(0)", net -> net.rounds(0), MindNet.OUTSIDE);
        dueRefused("rounds(301)", net -> net.rounds(301), MindNet.OUTSIDE);
        dueRefused("ear(-1)", net -> net.ear(-1), MindNet.OUTSIDE);
        dueRefused("ear(1001)", net -> net.ear(1001), MindNet.OUTSIDE);
        dueRefused("told(-1)", net -> net.told(-1), MindNet.OUTSIDE);
        dueRefused("told(7)", net -> net.told(7), MindNet.OUTSIDE);
    }

    /** OUTSIDE goes ahead of FULL. */
    private static void outsideAheadOfFull() {
        dueRefused("one(-1)", net -> net.one(-1), MindNet.OUTSIDE);
        dueRefused("one(1001)", net -> net.one(1001), MindNet.OUTSIDE);
    }

    /** OUTSIDE goes ahead of NO: nobody and twelve have neither shares nor rest. */
    private static void outsideAheadOfNo() {
        dueRefused("end(-1)", net -> net.end(-1), LOST_OUTSIDE);
        dueRefused("end(2)", net -> net.end(2), LOST_OUTSIDE);
        dueRefused("pull(-1)", net -> net.pull(-1), MindNet.OUTSIDE);
        dueRefused("pull(1001)", net -> net.pull(1001), MindNet.OUTSIDE);
    }

    /** OUTSIDE goes ahead of UNKNOWN in fewest(). */
    private static void outsideAheadOfUnknown() {
        dueRefused("fewest(1, 0)", net -> net.fewest(1, 0), MindNet.OUTSIDE);
        dueRefused("fewest(5, 0)", net -> net.fewest(5, 0), MindNet.OUTSIDE);
        dueRefused("fewest(2, -1)", net -> net.fewest(2, -1), MindNet.OUTSIDE);
        dueRefused("fewest(4, 1001)", net -> net.fewest(4, 1001), MindNet.OUTSIDE);
    }

    private static void farNumbers() {
        for (int far : FAR) {
            String call = "far " + far + ": ";
            dueRefused(call + "one", net -> net.one(far), MindNet.OUTSIDE);
            dueRefused(call + "think", net -> net.think(far, 5), MindNet.UNKNOWN);
            dueRefused(call + "stubborn", net -> net.stubborn(far, true), MindNet.UNKNOWN);
            dueRefused(call + "weight of", net -> net.weight(far, 0, 5), MindNet.UNKNOWN);
            dueRefused(call + "weight for", net -> net.weight(0, far, 5), MindNet.UNKNOWN);
            dueRefused(call + "ear", net -> net.ear(far), MindNet.OUTSIDE);
            dueRefused(call + "rounds", net -> net.rounds(far), MindNet.OUTSIDE);
            dueRefused(call + "about of", net -> net.about(far, 0), MindNet.UNKNOWN);
            dueRefused(call + "told", net -> net.told(far), MindNet.OUTSIDE);
            dueRefused(call + "width from", net -> net.width(far, 1000, 1), MindNet.OUTSIDE);
            dueRefused(call + "width from 30 below", net -> net.width(far, far + 30, 1), MindNet.OUTSIDE);
            dueRefused(call + "width to", net -> net.width(1000, far, 1), MindNet.OUTSIDE);
            dueRefused(call + "width for groups", net -> net.width(0, 30, far), MindNet.OUTSIDE);
            dueRefused(call + "leads of", net -> net.leads(far, 0), MindNet.UNKNOWN);
            dueRefused(call + "leads to", net -> net.leads(0, far), MindNet.UNKNOWN);
            dueRefused(call + "share of", net -> net.share(far, 0), LOST_UNKNOWN);
            dueRefused(call + "end", net -> net.end(far), LOST_OUTSIDE);
            dueRefused(call + "rest of", net -> net.rest(far, 0), LOST_UNKNOWN);
            dueRefused(call + "pull", net -> net.pull(far), MindNet.OUTSIDE);
            dueRefused(call + "talk of", net -> net.talk(far, 0), MindNet.UNKNOWN);
            dueRefused(call + "talk with", net -> net.talk(0, far), MindNet.UNKNOWN);
            dueRefused(call + "fewest of", net -> net.fewest(far, 0), MindNet.OUTSIDE);
            dueRefused(call + "fewest to", net -> net.fewest(2, far), MindNet.OUTSIDE);
        }
    }

    /** What needs somebody to be there, so that it is not UNKNOWN. */
    private static List<Refused> ofSomebody() {
        List<Refused> calls = new ArrayList<>();
        for (int far : FAR) {
            String call = "far " + far + ": ";
            calls.add(new Refused(call + "think what", net -> net.think(0, far), MindNet.OUTSIDE));
            calls.add(new Refused(call + "weight how much", net -> net.weight(0, 1, far), MindNet.OUTSIDE));
            calls.add(new Refused(call + "weight for itself", net -> net.weight(0, 0, far), MindNet.OUTSIDE));
            calls.add(new Refused(call + "about what", net -> net.about(0, far), MindNet.OUTSIDE));
            calls.add(new Refused(call + "share, which part", net -> net.share(0, far), LOST_OUTSIDE));
            calls.add(new Refused(call + "rest, which part", net -> net.rest(0, far), LOST_OUTSIDE));
        }
        calls.add(new Refused("think(0, -1)", net -> net.think(0, -1), MindNet.OUTSIDE));
        calls.add(new Refused("think(0, 1001)", net -> net.think(0, 1001), MindNet.OUTSIDE));
        calls.add(new Refused("weight(0, 1, -1)", net -> net.weight(0, 1, -1), MindNet.OUTSIDE));
        calls.add(new Refused("weight(0, 1, 10)", net -> net.weight(0, 1, 10), MindNet.OUTSIDE));
        calls.add(new Refused("about(0, -1)", net -> net.about(0, -1), MindNet.OUTSIDE));
        calls.add(new Refused("about(0, 4)", net -> net.about(0, 4), MindNet.OUTSIDE));
        calls.add(new Refused("share(0, -1)", net -> net.share(0, -1), LOST_OUTSIDE));
        calls.add(new Refused("share(0, 2)", net -> net.share(0, 2), LOST_OUTSIDE));
        calls.add(new Refused("rest(0, -1)", net -> net.rest(0, -1), LOST_OUTSIDE));
        calls.add(new Refused("rest(0, 2)", net -> net.rest(0, 2), LOST_OUTSIDE));
        return calls;
    }

    /** All refused calls on one object, and then it has to be as one that never heard of them. */
    private static void theyChangeNothing(String who, Supplier<MindNet> making) {
        List<Refused> calls = new ArrayList<>(CALLS);
        if (making.get().told(0) > 0) {
            calls.addAll(ofSomebody());
        }
        for (Refused refused : calls) {
            dueAndAlike(who, making, refused);
        }
    }

    private static void dueAndAlike(String who, Supplier<MindNet> making, Refused refused) {
        MindNet asked = making.get();
        DUE.is("terms: " + who + ": " + refused.call(), refused.made().applyAsLong(asked), refused.due());
        dueAlike("terms: " + who + ": after " + refused.call(), asked, making.get());
    }

    /** STATE, FULL, NO: refused by how things stand; FULL goes behind OUTSIDE, NO behind both. */
    private static void whatIsRefusedByState() {
        dueAndAlike("nobody", MindNet::new, new Refused("back()", net -> net.back(), MindNet.STATE));
        dueAndAlike("all twelve", RefusalsTest::twelve, new Refused("one(0)", net -> net.one(0), MindNet.FULL));
        dueAndAlike("nobody", MindNet::new, new Refused("end(0)", net -> net.end(0), LOST_NO));
        dueAndAlike("nobody", MindNet::new, new Refused("pull(0)", net -> net.pull(0), MindNet.NO));
        Supplier<MindNet> lonely = () -> People.thinking(5, 600);
        dueAndAlike("two", lonely, new Refused("share(1, 1)", net -> net.share(1, 1), LOST_NO));
        dueAndAlike("two", lonely, new Refused("rest(1, 1)", net -> net.rest(1, 1), LOST_NO));
        dueAndAlike("two", lonely, new Refused("pull(9)", net -> net.pull(9), MindNet.NO));
        dueAndAlike("two", lonely, new Refused("fewest(3, 0)", net -> net.fewest(3, 0), MindNet.UNKNOWN));
        dueAndAlike("two", lonely, new Refused("back()", net -> net.back(), MindNet.STATE));
        Supplier<MindNet> searched = RefusalsTest::searchedTwo;
        dueAndAlike("two", searched, new Refused("fewest(4, 9)", net -> net.fewest(4, 9), MindNet.UNKNOWN));
        Supplier<MindNet> spent = RefusalsTest::spentSearch;
        dueAndAlike("four", spent, new Refused("fewest(4, 0)", net -> net.fewest(4, 0), MindNet.SPENT));
    }

    private static MindNet searchedTwo() {
        MindNet net = People.thinking(5, 600);
        net.fewest(2, 0);
        return net;
    }

    private static MindNet spentSearch() {
        MindNet net = People.thinking(1000, 0, 777, 1);
        net.fewest(4, 0);
        return net;
    }

    private static void dueAlike(String when, MindNet one, MindNet other) {
        for (int what = 0; what <= 6; what++) {
            DUE.is(when + ": told(" + what + ")", one.told(what), other.told(what));
        }
        DUE.is(when + ": found()", one.found(), other.found());
        DUE.is(when + ": end(0)", one.end(0), other.end(0));
        DUE.is(when + ": end(1)", one.end(1), other.end(1));
        DUE.is(when + ": pull(1000)", one.pull(1000), other.pull(1000));
        int people = other.told(0);
        for (int each = 0; each < people; each++) {
            dueOneAlike(when, one, other, each);
        }
        dueThoughtsAlike(when, one, other);
        DUE.is(when + ": back()", one.back(), other.back());
        dueThoughtsAlike(when + " and back()", one, other);
        DUE.is(when + ": rounds(9)", one.rounds(9), other.rounds(9));
        dueThoughtsAlike(when + " and rounds(9)", one, other);
        for (int each = 0; each < people; each++) {
            for (int heard = 0; heard < people; heard++) {
                DUE.is(when + ": weight", one.weight(each, heard, 9), other.weight(each, heard, 9));
            }
        }
        DUE.is(when + ": one(8)", one.one(8), other.one(8));
    }

    private static void dueOneAlike(String when, MindNet one, MindNet other, int each) {
        DUE.is(when + ": stubborn", one.about(each, 1), other.about(each, 1));
        DUE.is(when + ": hears", one.about(each, 2), other.about(each, 2));
        DUE.is(when + ": group", one.about(each, 3), other.about(each, 3));
        DUE.is(when + ": share", one.share(each, 0), other.share(each, 0));
        DUE.is(when + ": rest", one.rest(each, 0), other.rest(each, 0));
    }

    private static void dueThoughtsAlike(String when, MindNet one, MindNet other) {
        for (int each = 0; each < other.told(0); each++) {
            DUE.is(when + ": thought", one.about(each, 0), other.about(each, 0));
        }
    }
}
