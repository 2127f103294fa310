import java.util.Random;

/** All promises: runs of chance calls, the same each time, that the class and the model have to answer alike. */
public final class RandomRunsTest {
    private static final Due DUE = new Due("RandomRunsTest");
    private static final int RUNS = 3000;
    private static final int CALLS = 320;
    /** Of so many runs one goes on to the last call that an object is used for. */
    private static final int LONG_RUNS = 60;
    private static final int MOST_CALLS = 512;
    private static final int[] ODD = {Integer.MIN_VALUE, -2, -1, 5, 10, 12, 13, 300, 301, 1000, 1001,
        Integer.MAX_VALUE};

    private final Random random;
    private final MindNet net = new MindNet();
    private final Model model = new Model();
    private final StringBuilder told = new StringBuilder();
    private final int most;
    private final int greatest;
    private final int calls;
    private int called = 0;

    private RandomRunsTest(long seed) {
        random = new Random(seed);
        most = 1 + random.nextInt(12);
        greatest = random.nextInt(4) == 0 ? 9 : 1 + random.nextInt(9);
        calls = seed % LONG_RUNS == 0 ? MOST_CALLS : CALLS;
    }

    public static void main(String[] args) {
        for (int run = 0; run < RUNS && DUE.countWrong() == 0; run++) {
            new RandomRunsTest(run).play();
        }
        DUE.close();
    }

    private void play() {
        for (int one = 0; one < most; one++) {
            call(0);
        }
        for (int weight = 0; weight < random.nextInt(most * most + 1); weight++) {
            call(3);
        }
        while (called < calls && DUE.countWrong() == 0) {
            call(kind());
        }
    }

    /** Dear calls come seldom. */
    private int kind() {
        int kind = random.nextInt(20);
        return kind == 10 && random.nextInt(4) != 0 ? 3 : kind == 0 && random.nextInt(8) != 0 ? 2 : kind;
    }

    private int chance(int least, int bound) {
        return random.nextInt(25) == 0 ? ODD[random.nextInt(ODD.length)] : least + random.nextInt(bound - least + 1);
    }

    private int person() {
        return chance(0, most - 1);
    }

    private int thought() {
        return random.nextInt(3) == 0 ? chance(0, 60) : chance(0, 1000);
    }

    private void alike(String call, long got, long want) {
        told.append(call).append(" = ").append(want).append('\n');
        DUE.is(got == want ? call : told.toString() + call, got, want);
    }

    private void call(int kind) {
        called++;
        if (kind < 7) {
            tellPeople(kind);
        } else if (kind < 13) {
            askPeople(kind);
        } else {
            askNumbers(kind);
        }
    }

    private void tellPeople(int kind) {
        int a = person();
        int b = person();
        int t = thought();
        boolean is = random.nextBoolean();
        int w = random.nextInt(3) == 0 ? 0 : chance(0, greatest);
        int n = chance(1, 300);
        switch (kind) {
            case 0 -> alike("one(" + t + ")", net.one(t), model.one(t));
            case 1 -> alike("think(" + a + ", " + t + ")", net.think(a, t), model.think(a, t));
            case 2 -> alike("stubborn(" + a + ", " + is + ")", net.stubborn(a, is), model.stubborn(a, is));
            case 3 -> alike("weight(" + a + ", " + b + ", " + w + ")", net.weight(a, b, w), model.weight(a, b, w));
            case 4 -> alike("ear(" + t + ")", net.ear(t), model.ear(t));
            case 5 -> alike("rounds(" + n + ")", net.rounds(n), model.rounds(n));
            default -> alike("settle()", net.settle(), model.settle());
        }
    }

    private void askPeople(int kind) {
        int a = person();
        int what = chance(0, kind == 7 ? 3 : 6);
        int from = thought();
        int to = from + chance(0, 30);
        int groups = chance(1, 12);
        int b = person();
        switch (kind) {
            case 7 -> alike("about(" + a + ", " + what + ")", net.about(a, what), model.about(a, what));
            case 8 -> alike("told(" + what + ")", net.told(what), model.told(what));
            case 9 -> alike("keep()", net.keep(), model.keep());
            case 10 -> alike("width(" + from + ", " + to + ", " + groups + ")",
                net.width(from, to, groups), model.width(from, to, groups));
            case 11 -> alike("back()", net.back(), model.back());
            default -> alike("leads(" + a + ", " + b + ")", net.leads(a, b), model.leads(a, b));
        }
    }

    private void askNumbers(int kind) {
        int a = person();
        int b = person();
        int what = chance(0, 1);
        int t = thought();
        int n = chance(2, 4);
        int d = random.nextInt(2) == 0 ? chance(0, 3) : thought();
        switch (kind) {
            case 13 -> alike("share(" + a + ", " + what + ")", net.share(a, what), model.share(a, what));
            case 14 -> alike("end(" + what + ")", net.end(what), model.end(what));
            case 15 -> alike("rest(" + a + ", " + what + ")", net.rest(a, what), model.rest(a, what));
            case 16 -> alike("pull(" + t + ")", net.pull(t), model.pull(t));
            case 17 -> alike("talk(" + a + ", " + b + ")", net.talk(a, b), model.talk(a, b));
            case 18 -> alike("fewest(" + n + ", " + d + ")", net.fewest(n, d), model.fewest(n, d));
            default -> alike("found()", net.found(), model.found());
        }
    }
}
