import java.util.ArrayList;
import java.util.LinkedHashMap;
import java.util.List;
import java.util.Map;

/** What the document says, written once more in another way and with the whole library: slow and plain. */
final class Model {
    private static final long LOST = -1000000000000000000L;

    private final List<Integer> thoughts = new ArrayList<>();
    private final List<Boolean> stubborn = new ArrayList<>();
    private final int[][] weights = new int[12][12];
    private int ear = 1000;
    private List<Integer> kept = null;
    private int found = 0;

    private boolean isUnknown(int one) {
        return one < 0 || one >= thoughts.size();
    }

    private static boolean isOutside(int number, int least, int most) {
        return number < least || number > most;
    }

    int one(int thought) {
        if (isOutside(thought, 0, 1000)) {
            return -2;
        }
        if (thoughts.size() == 12) {
            return -4;
        }
        weights[thoughts.size()][thoughts.size()] = 1;
        thoughts.add(thought);
        stubborn.add(false);
        return thoughts.size() - 1;
    }

    int think(int one, int thought) {
        return isUnknown(one) ? -1 : isOutside(thought, 0, 1000) ? -2 : thoughts.set(one, thought);
    }

    int stubborn(int one, boolean is) {
        return isUnknown(one) ? -1 : stubborn.set(one, is) ? 1 : 0;
    }

    int weight(int one, int other, int w) {
        if (isUnknown(one) || isUnknown(other)) {
            return -1;
        }
        if (isOutside(w, 0, 9)) {
            return -2;
        }
        int before = weights[one][other];
        weights[one][other] = w;
        return before;
    }

    int ear(int width) {
        if (isOutside(width, 0, 1000)) {
            return -2;
        }
        int before = ear;
        ear = width;
        return before;
    }

    private int gap(int one, int other) {
        return Math.abs(thoughts.get(one) - thoughts.get(other));
    }

    private List<Integer> heardBy(int one) {
        List<Integer> heard = new ArrayList<>();
        for (int other = 0; other < thoughts.size(); other++) {
            if (other == one || (weights[one][other] != 0 && gap(one, other) <= ear)) {
                heard.add(other);
            }
        }
        return heard;
    }

    private boolean round() {
        List<Integer> next = new ArrayList<>();
        for (int one = 0; one < thoughts.size(); one++) {
            int upper = 0;
            int lower = 0;
            for (int other : heardBy(one)) {
                upper += weights[one][other] * thoughts.get(other);
                lower += weights[one][other];
            }
            next.add(stubborn.get(one) || lower == 0 ? thoughts.get(one) : (Integer) (upper / lower));
        }
        boolean changed = !next.equals(thoughts);
        thoughts.clear();
        thoughts.addAll(next);
        return changed;
    }

    int rounds(int n) {
        if (isOutside(n, 1, 300)) {
            return -2;
        }
        int changed = 0;
        for (int round = 0; round < n; round++) {
            changed += round() ? 1 : 0;
        }
        return changed;
    }

    int settle() {
        for (int round = 1; round <= 300; round++) {
            if (!round()) {
                return round;
            }
        }
        return -7;
    }

    /** The group of each, numbered as they are met. */
    private int[] groups() {
        int[] group = new int[thoughts.size()];
        java.util.Arrays.fill(group, -1);
        int next = 0;
        for (int one = 0; one < group.length; one++) {
            if (group[one] < 0) {
                flood(group, one, next++);
            }
        }
        return group;
    }

    private void flood(int[] group, int one, int number) {
        group[one] = number;
        for (int other = 0; other < group.length; other++) {
            boolean hang = weights[one][other] + weights[other][one] > 0 && gap(one, other) <= ear;
            if (group[other] < 0 && hang) {
                flood(group, other, number);
            }
        }
    }

    private int countGroups() {
        int most = 0;
        for (int number : groups()) {
            most = Math.max(most, number + 1);
        }
        return most;
    }

    int about(int one, int what) {
        if (isUnknown(one)) {
            return -1;
        }
        if (isOutside(what, 0, 3)) {
            return -2;
        }
        return what == 0 ? thoughts.get(one) : what == 1 ? (stubborn.get(one) ? 1 : 0)
            : what == 2 ? heardBy(one).size() - 1 : groups()[one];
    }

    int told(int what) {
        switch (what) {
            case 0:
                return thoughts.size();
            case 1:
                return ear;
            case 2:
                return countGroups();
            case 3:
                return spread(thoughts);
            case 4:
                int discord = 0;
                for (int one = 0; one < thoughts.size(); one++) {
                    for (int other = 0; other < one; other++) {
                        discord += gap(one, other);
                    }
                }
                return discord;
            case 5:
                return thoughts.stream().mapToInt(Integer::intValue).sum();
            case 6:
                return (int) stubborn.stream().filter(is -> is).count();
            default:
                return -2;
        }
    }

    private static int spread(List<Integer> of) {
        return of.isEmpty() ? 0 : java.util.Collections.max(of) - java.util.Collections.min(of);
    }

    int keep() {
        kept = new ArrayList<>(thoughts);
        return kept.size();
    }

    int back() {
        if (kept == null) {
            return -3;
        }
        for (int one = 0; one < kept.size(); one++) {
            thoughts.set(one, kept.get(one));
        }
        return kept.size();
    }

    int width(int a, int b, int g) {
        if (isOutside(a, 0, 1000) || isOutside(b, 0, 1000) || b < a || b > a + 30 || isOutside(g, 1, 12)) {
            return -2;
        }
        List<Integer> before = new ArrayList<>(thoughts);
        int earBefore = ear;
        int answer = -6;
        for (int width = b; width >= a; width--) {
            ear = width;
            if (settle() != -7 && countGroups() <= g) {
                answer = width;
            }
            thoughts.clear();
            thoughts.addAll(before);
        }
        ear = earBefore;
        return answer;
    }

    private boolean leadsTo(int one, int other) {
        boolean[] reached = new boolean[12];
        List<Integer> queue = new ArrayList<>(List.of(one));
        for (int at = 0; at < queue.size(); at++) {
            for (int next = 0; next < thoughts.size(); next++) {
                if (weights[next][queue.get(at)] > 0 && !reached[next]) {
                    reached[next] = true;
                    queue.add(next);
                }
            }
        }
        return reached[other];
    }

    int leads(int one, int other) {
        return isUnknown(one) || isUnknown(other) ? -1 : leadsTo(one, other) ? 1 : 0;
    }

    private Fraction[] shares() {
        int people = thoughts.size();
        if (people < 2 || people > 6) {
            return null;
        }
        for (int one = 0; one < people; one++) {
            for (int other = 0; other < people; other++) {
                if (!leadsTo(one, other)) {
                    return null;
                }
            }
        }
        Fraction[][] rows = new Fraction[people + 1][people + 1];
        for (int of = 0; of < people; of++) {
            rows[people][of] = Fraction.ONE;
            int together = java.util.Arrays.stream(weights[of]).sum();
            for (int one = 0; one < people; one++) {
                Fraction counts = Fraction.of(weights[of][one]).by(Fraction.of(together));
                rows[one][of] = of == one ? counts.minus(Fraction.ONE) : counts;
            }
            rows[of][people] = Fraction.ZERO;
        }
        rows[people][people] = Fraction.ONE;
        return Fraction.solve(rows, people);
    }

    long share(int one, int what) {
        if (isUnknown(one)) {
            return LOST - 1;
        }
        if (isOutside(what, 0, 1)) {
            return LOST - 2;
        }
        Fraction[] shares = shares();
        return shares == null ? LOST - 5 : shares[one].part(what);
    }

    long end(int what) {
        if (isOutside(what, 0, 1)) {
            return LOST - 2;
        }
        Fraction[] shares = shares();
        if (shares == null) {
            return LOST - 5;
        }
        Fraction sum = Fraction.ZERO;
        for (int one = 0; one < shares.length; one++) {
            sum = sum.plus(shares[one].times(Fraction.of(thoughts.get(one))));
        }
        return sum.part(what);
    }

    /** Of all people; null if it is not told. There is just one answer exactly when it is told. */
    private Fraction[] rest() {
        int people = thoughts.size();
        int moving = people - told(6);
        if (moving < 1 || moving > 6) {
            return null;
        }
        Fraction[][] rows = new Fraction[people][people + 1];
        for (int one = 0; one < people; one++) {
            java.util.Arrays.fill(rows[one], Fraction.ZERO);
            if (stubborn.get(one)) {
                rows[one][one] = Fraction.ONE;
                rows[one][people] = Fraction.of(thoughts.get(one));
                continue;
            }
            for (int other = 0; other < people; other++) {
                Fraction weight = Fraction.of(other == one ? 0 : weights[one][other]);
                rows[one][other] = rows[one][other].minus(weight);
                rows[one][one] = rows[one][one].plus(weight);
            }
        }
        return Fraction.solve(rows, people);
    }

    long rest(int one, int what) {
        if (isUnknown(one)) {
            return LOST - 1;
        }
        if (isOutside(what, 0, 1)) {
            return LOST - 2;
        }
        Fraction[] rest = rest();
        return rest == null ? LOST - 5 : rest[one].part(what);
    }

    int pull(int thought) {
        if (isOutside(thought, 0, 1000)) {
            return -2;
        }
        if (rest() == null || thoughts.size() - told(6) == 1) {
            return -5;
        }
        int best = -5;
        Fraction most = Fraction.of(-1);
        for (int one = 0; one < thoughts.size(); one++) {
            if (stubborn.get(one)) {
                continue;
            }
            int before = thoughts.set(one, thought);
            stubborn.set(one, true);
            Fraction sum = Fraction.ZERO;
            for (Fraction part : rest()) {
                sum = sum.plus(part);
            }
            stubborn.set(one, false);
            thoughts.set(one, before);
            if (sum.isAbove(most)) {
                best = one;
                most = sum;
            }
        }
        return best;
    }

    private static List<Integer> afterTalk(List<Integer> before, int a, int b) {
        List<Integer> after = new ArrayList<>(before);
        int first = Math.min(a, b);
        int second = Math.max(a, b);
        int lesser = before.get(second) < before.get(first) ? second : first;
        int sum = before.get(a) + before.get(b);
        after.set(lesser, sum / 2);
        after.set(a + b - lesser, sum - sum / 2);
        return after;
    }

    int talk(int a, int b) {
        if (isUnknown(a) || isUnknown(b) || a == b) {
            return -1;
        }
        int gap = gap(a, b);
        List<Integer> after = afterTalk(thoughts, a, b);
        thoughts.clear();
        thoughts.addAll(after);
        return gap;
    }

    int fewest(int n, int d) {
        if (isOutside(n, 2, 4) || isOutside(d, 0, 1000)) {
            return -2;
        }
        if (thoughts.size() < n) {
            return -1;
        }
        Map<List<Integer>, Integer> talks = new LinkedHashMap<>();
        List<List<Integer>> queue = new ArrayList<>();
        queue.add(new ArrayList<>(thoughts.subList(0, n)));
        talks.put(queue.get(0), 0);
        int answer = spread(queue.get(0)) <= d ? 0 : search(talks, queue, n, d);
        found = talks.size();
        return answer;
    }

    private static int search(Map<List<Integer>, Integer> talks, List<List<Integer>> queue, int n, int d) {
        for (int at = 0; at < queue.size(); at++) {
            for (int a = 0; a < n; a++) {
                for (int b = a + 1; b < n; b++) {
                    List<Integer> next = afterTalk(queue.get(at), a, b);
                    if (talks.containsKey(next)) {
                        continue;
                    }
                    if (talks.size() == 500) {
                        return -7;
                    }
                    talks.put(next, talks.get(queue.get(at)) + 1);
                    queue.add(next);
                    if (spread(next) <= d) {
                        return talks.get(next);
                    }
                }
            }
        }
        return -6;
    }

    int found() {
        return found;
    }
}
