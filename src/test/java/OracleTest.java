import java.math.BigInteger;
import java.util.ArrayList;
import java.util.List;
import java.util.Random;

/**
 * Many nets from a fixed seed, judged by the document's own words: what the bench tells is put into the equations, and
 * ranks, tightness and stiffness are found in other ways than the bench's (plain fractions, Fourier and Motzkin's
 * elimination, completing of squares).
 */
public final class OracleTest {
    private static final int NETS = 4000;
    private static final Random RANDOM = new Random(20261116);

    private final int joints;
    private final int members;
    private final long[] numbers;
    private final int[][] place;
    private final boolean[] fixed;
    private final int[][] load;
    private final int[] a;
    private final int[] b;
    private final int[] sort;
    private final int[] pull;
    private final TensionNet bench = new TensionNet();
    private static final int[] SEEN = new int[12];

    private OracleTest(long[] numbers) {
        this.numbers = numbers;
        joints = (int) numbers[0];
        place = new int[joints][2];
        fixed = new boolean[joints];
        load = new int[joints][2];
        for (int j = 0; j < joints; j++) {
            place[j][0] = (int) numbers[1 + 3 * j];
            place[j][1] = (int) numbers[2 + 3 * j];
            fixed[j] = numbers[3 + 3 * j] == 1;
        }
        int at = 1 + 3 * joints;
        members = (int) numbers[at++];
        a = new int[members];
        b = new int[members];
        sort = new int[members];
        pull = new int[members];
        for (int m = 0; m < members; m++) {
            a[m] = (int) numbers[at++];
            b[m] = (int) numbers[at++];
            sort[m] = (int) numbers[at++];
        }
    }

    public static void main(String[] args) {
        for (int i = 0; i < NETS; i++) {
            new OracleTest(randomNet(i)).judge();
        }
        String[] what = {"tight 0", "tight 1", "tight -7", "stiff 0", "stiff 1", "stiff -7", "borne 0", "borne 1",
            "borne 2", "shaped", "tight of three stresses", "stiff of three ways"};
        for (int i = 0; i < SEEN.length; i++) {
            System.out.println(what[i] + ": " + SEEN[i]);
            Check.due("there are nets with " + what[i], SEEN[i] > 0, true);
        }
        Check.end();
    }

    private static int pick(int low, int high) {
        return low + RANDOM.nextInt(high - low + 1);
    }

    private static long[] randomNet(int kind) {
        int joints = pick(1, 8);
        int far = kind % 3 == 0 ? 2 : kind % 3 == 1 ? 6 : 20;
        int fixedOfTen = pick(0, 9);
        boolean line = pick(0, 5) == 0;
        int most = joints == 1 ? 0 : Math.min(14, (60 - 2 - 3 * joints) / 3);
        List<Long> list = new ArrayList<>();
        list.add((long) joints);
        int[][] place = new int[joints][2];
        int free = 0;
        for (int j = 0; j < joints; j++) {
            place[j][0] = line ? 2 * j - 7 : pick(-far, far);
            place[j][1] = line ? 3 : pick(-far, far);
            list.add((long) place[j][0]);
            list.add((long) place[j][1]);
            boolean end = line && (j == 0 || j == joints - 1);
            boolean fixed = end || pick(1, 10) <= fixedOfTen;
            free += fixed ? 0 : 1;
            list.add(fixed ? 1L : 0L);
        }
        int sorts = pick(0, 3);
        int mostSort = sorts == 0 ? 2 : sorts == 3 ? 1 : sorts;
        int leastSort = sorts == 1 ? 1 : sorts == 3 ? 0 : sorts;
        // Tightness is told of few stresses alone: so most nets have not many members more than moves.
        int aim = pick(0, 3);
        int count = aim == 0 ? pick(0, most) : aim == 1 ? most : Math.min(most, Math.max(0, 2 * free + pick(-1, 3)));
        List<Long> ends = new ArrayList<>();
        int made = 0;
        for (int tries = 0; tries < 200 && made < count; tries++) {
            int one = line && made < joints - 1 ? made : pick(0, joints - 1);
            int two = line && made < joints - 1 ? made + 1 : pick(0, joints - 1);
            if (place[one][0] != place[two][0] || place[one][1] != place[two][1]) {
                ends.add((long) one);
                ends.add((long) two);
                ends.add((long) pick(Math.min(leastSort, mostSort), mostSort));
                made++;
            }
        }
        list.add((long) made);
        list.addAll(ends);
        long[] numbers = new long[list.size()];
        for (int i = 0; i < numbers.length; i++) {
            numbers[i] = list.get(i);
        }
        return numbers;
    }

    private void judge() {
        Check.due("net", Check.build(bench, 0, numbers), members);
        int stresses = judgeStresses();
        int ways = judgeWays();
        judgeTight(stresses);
        for (int round = 0; round < 6 && stresses > 0 && stresses <= 3; round++) {
            tellSorts(round, stresses);
            judgeTight(stresses);
        }
        for (int round = 0; round < 4; round++) {
            tellPulls(round, stresses);
            tellLoads(round);
            judgeLeft();
            judgeBorne(stresses);
            judgeShape();
            judgeStiff(ways);
        }
        Check.due("stresses in the end", bench.stresses(), stresses);
        Check.due("ways in the end", bench.ways(), ways);
    }

    // What a pull of 1 in a member does at a joint.
    private long does(int m, int joint, int axis) {
        long span = place[b[m]][axis] - place[a[m]][axis];
        return joint == a[m] ? span : joint == b[m] ? -span : 0;
    }

    private Q[][] forces(int columns, boolean withLoads) {
        List<Q[]> rows = new ArrayList<>();
        for (int j = 0; j < joints; j++) {
            for (int axis = 0; axis < 2 && !fixed[j]; axis++) {
                Q[] row = new Q[columns + (withLoads ? 1 : 0)];
                for (int m = 0; m < columns; m++) {
                    row[m] = Q.of(does(m, j, axis));
                }
                if (withLoads) {
                    row[columns] = Q.of(load[j][axis]);
                }
                rows.add(row);
            }
        }
        return rows.toArray(new Q[0][]);
    }

    private int judgeStresses() {
        List<Integer> free = new ArrayList<>();
        for (int m = 0; m < members; m++) {
            int ahead = m - Q.rank(forces(m, false));
            int with = m + 1 - Q.rank(forces(m + 1, false));
            Check.due("led " + m, bench.told(m, 14), with > ahead ? 0 : 1);
            if (with > ahead) {
                free.add(m);
            }
        }
        Check.due("stresses", bench.stresses(), free.size());
        for (int i = 0; i < free.size(); i++) {
            Q[] pulls = new Q[members];
            for (int m = 0; m < members; m++) {
                Check.due("stress", bench.stress(i, m), true);
                pulls[m] = Q.told(bench);
                if (free.contains(m)) {
                    due("stress at a free member", pulls[m], Q.of(free.get(i) == m ? 1 : 0));
                }
            }
            judgeEven("stress", pulls, false);
        }
        Check.due("no stress", bench.stress(free.size(), 0), false);
        return free.size();
    }

    private void judgeEven(String what, Q[] pulls, boolean withLoads) {
        for (int j = 0; j < joints; j++) {
            for (int axis = 0; axis < 2 && !fixed[j]; axis++) {
                Q sum = Q.of(withLoads ? load[j][axis] : 0);
                for (int m = 0; m < members; m++) {
                    sum = sum.plus(pulls[m].times(Q.of(does(m, j, axis))));
                }
                due(what + " is even", sum, Q.of(0));
            }
        }
    }

    // A row for each member; only the first moves, as many as told, may differ from 0.
    private Q[][] stretches(int first) {
        Q[][] rows = new Q[members][first];
        for (int m = 0; m < members; m++) {
            int at = 0;
            for (int j = 0; j < joints; j++) {
                for (int axis = 0; axis < 2 && !fixed[j]; axis++) {
                    if (at < first) {
                        rows[m][at++] = Q.of(does(m, j, axis));
                    }
                }
            }
        }
        return rows;
    }

    private int judgeWays() {
        int moves = 2 * bench.count(1);
        List<Integer> free = new ArrayList<>();
        for (int k = 0; k < moves; k++) {
            int ahead = k - Q.rank(stretches(k));
            int with = k + 1 - Q.rank(stretches(k + 1));
            if (with > ahead) {
                free.add(k);
            }
        }
        Check.due("ways", bench.ways(), free.size());
        for (int i = 0; i < free.size(); i++) {
            Q[][] move = move(i);
            int at = 0;
            for (int j = 0; j < joints; j++) {
                for (int axis = 0; axis < 2; axis++) {
                    if (fixed[j]) {
                        due("move of a fixed joint", move[j][axis], Q.of(0));
                    } else {
                        if (free.contains(at)) {
                            due("way at a free move", move[j][axis], Q.of(free.get(i) == at ? 1 : 0));
                        }
                        at++;
                    }
                }
            }
            for (int m = 0; m < members; m++) {
                Q sum = Q.of(0);
                for (int axis = 0; axis < 2; axis++) {
                    Q gap = move[a[m]][axis].minus(move[b[m]][axis]);
                    sum = sum.plus(gap.times(Q.of(place[a[m]][axis] - place[b[m]][axis])));
                }
                due("stretch of a way", sum, Q.of(0));
            }
        }
        Check.due("no way", bench.way(free.size(), 0, 0), false);
        return free.size();
    }

    private Q[][] move(int i) {
        Q[][] move = new Q[joints][2];
        for (int j = 0; j < joints; j++) {
            for (int axis = 0; axis < 2; axis++) {
                Check.due("way", bench.way(i, j, axis), true);
                move[j][axis] = Q.told(bench);
            }
        }
        return move;
    }

    private void judgeTight(int stresses) {
        int due = -7;
        if (stresses <= 3) {
            List<Q[]> asked = new ArrayList<>();
            for (int m = 0; m < members; m++) {
                if (sort[m] != 0) {
                    Q[] row = new Q[stresses];
                    for (int i = 0; i < stresses; i++) {
                        bench.stress(i, m);
                        row[i] = Q.told(bench).times(Q.of(sort[m] == 1 ? 1 : -1));
                    }
                    asked.add(row);
                }
            }
            due = Q.canAllBeAbove(asked, stresses) ? 1 : 0;
            SEEN[10] += stresses == 3 && asked.size() > 3 && due == 1 ? 1 : 0;
        }
        Check.due("tight", bench.tight(), due);
        SEEN[due == -7 ? 2 : due]++;
    }

    // Sorts that a mixture of stresses makes tight, in some rounds but for one member.
    private void tellSorts(int round, int stresses) {
        Q[] mix = mixture(stresses);
        for (int m = 0; m < members; m++) {
            sort[m] = mix[m].sign() == 0 || pick(0, 9) == 0 ? 0 : mix[m].sign() > 0 ? 1 : 2;
        }
        if (round % 3 == 2) {
            int m = pick(0, members - 1);
            sort[m] = sort[m] == 0 ? pick(1, 2) : 3 - sort[m];
        }
        for (int m = 0; m < members; m++) {
            Check.due("write", bench.write(0, 4 + 3 * joints + 3 * m, sort[m]), 0);
        }
        Check.due("net of other sorts", bench.net(0), members);
    }

    private Q[] mixture(int stresses) {
        Q[] mix = new Q[members];
        for (int m = 0; m < members; m++) {
            mix[m] = Q.of(0);
        }
        for (int i = 0; i < stresses; i++) {
            Q times = Q.of(pick(-2, 4));
            for (int m = 0; m < members; m++) {
                bench.stress(i, m);
                mix[m] = mix[m].plus(Q.told(bench).times(times));
            }
        }
        return mix;
    }

    private void tellPulls(int round, int stresses) {
        Q[] mix = mixture(stresses);
        BigInteger common = BigInteger.ONE;
        for (Q q : mix) {
            common = common.multiply(q.bottom.divide(q.bottom.gcd(common)));
        }
        boolean fits = round != 3;
        for (Q q : mix) {
            fits = fits && q.top.multiply(common).divide(q.bottom).abs().bitLength() < 10;
        }
        for (int m = 0; m < members; m++) {
            int even = fits ? mix[m].top.multiply(common).divide(mix[m].bottom).intValue() : 0;
            pull[m] = fits ? even : pick(0, 3) == 0 ? 0 : pick(-1000, 1000);
            Check.due("pull", bench.pull(m, pull[m]), 0);
        }
    }

    private void tellLoads(int round) {
        for (int j = 0; j < joints; j++) {
            for (int axis = 0; axis < 2; axis++) {
                load[j][axis] = round == 0 ? 0 : round == 1 ? pick(-1000, 1000) : -at(j, axis, round == 2);
                load[j][axis] = Math.max(-1000, Math.min(1000, load[j][axis]));
            }
            Check.due("load", bench.load(j, load[j][0], load[j][1]), 0);
        }
    }

    // What small pulls, or the told ones, do at a joint: loads that can be borne.
    private int at(int joint, int axis, boolean small) {
        int sum = 0;
        for (int m = 0; m < members; m++) {
            sum += (small ? m % 5 - 2 : pull[m]) * does(m, joint, axis);
        }
        return sum;
    }

    private void judgeLeft() {
        boolean even = true;
        for (int j = 0; j < joints; j++) {
            for (int axis = 0; axis < 2; axis++) {
                int due = at(j, axis, false) + load[j][axis];
                even = even && (fixed[j] || due == 0);
                Check.due("left", bench.left(j, axis), true);
                due("left", Q.told(bench), Q.of(due));
            }
        }
        Check.due("even", bench.even(), even);
    }

    private void judgeBorne(int stresses) {
        boolean can = Q.rank(forces(members, true)) == Q.rank(forces(members, false));
        int due = !can ? 0 : stresses == 0 ? 1 : 2;
        SEEN[6 + due]++;
        Check.due("borne", bench.borne(), due);
        Q[] pulls = new Q[members];
        for (int m = 0; m < members; m++) {
            Check.due("bears", bench.bears(m), can);
            pulls[m] = Q.told(bench);
            if (can && bench.told(m, 14) == 0) {
                due("bears at a free member", pulls[m], Q.of(0));
            }
        }
        if (can) {
            judgeEven("what bears", pulls, true);
        }
    }

    private void judgeShape() {
        Q[][] hold = new Q[joints][joints];
        for (int j = 0; j < joints; j++) {
            for (int k = 0; k < joints; k++) {
                hold[j][k] = Q.of(fixed[j] && j == k ? 1 : 0);
            }
        }
        for (int m = 0; m < members; m++) {
            int[][] ends = {{a[m], b[m]}, {b[m], a[m]}};
            for (int[] end : ends) {
                if (!fixed[end[0]]) {
                    hold[end[0]][end[0]] = hold[end[0]][end[0]].plus(Q.of(pull[m]));
                    hold[end[0]][end[1]] = hold[end[0]][end[1]].minus(Q.of(pull[m]));
                }
            }
        }
        boolean can = Q.rank(hold) == joints;
        SEEN[9] += can ? 1 : 0;
        Check.due("shaped", bench.shaped(), can);
        for (int axis = 0; axis < 2; axis++) {
            Q[] shape = new Q[joints];
            for (int j = 0; j < joints; j++) {
                Check.due("shape", bench.shape(j, axis), can);
                shape[j] = Q.told(bench);
                if (can && fixed[j]) {
                    due("fixed place", shape[j], Q.of(place[j][axis]));
                }
            }
            for (int j = 0; j < joints && can; j++) {
                Q sum = Q.of(load[j][axis]);
                for (int m = 0; m < members; m++) {
                    int other = a[m] == j ? b[m] : a[m];
                    if (a[m] == j || b[m] == j) {
                        sum = sum.plus(shape[other].minus(shape[j]).times(Q.of(pull[m])));
                    }
                }
                if (!fixed[j]) {
                    due("the shape is even", sum, Q.of(0));
                }
            }
        }
    }

    private void judgeStiff(int ways) {
        int due = 1;
        for (int j = 0; j < joints; j++) {
            if (!fixed[j] && (at(j, 0, false) != 0 || at(j, 1, false) != 0)) {
                due = 0;
            }
        }
        if (due == 1) {
            due = ways > 3 ? -7 : isAbove(ways) ? 1 : 0;
            SEEN[11] += due == 1 && ways == 3 ? 1 : 0;
        }
        SEEN[due == -7 ? 5 : 3 + due]++;
        Check.due("stiff", bench.stiff(), due);
    }

    private boolean isAbove(int ways) {
        Q[][][] moves = new Q[ways][][];
        for (int i = 0; i < ways; i++) {
            moves[i] = move(i);
        }
        Q[][] form = new Q[ways][ways];
        for (int i = 0; i < ways; i++) {
            for (int j = 0; j < ways; j++) {
                form[i][j] = Q.of(0);
                for (int m = 0; m < members; m++) {
                    for (int axis = 0; axis < 2; axis++) {
                        Q one = moves[i][a[m]][axis].minus(moves[i][b[m]][axis]);
                        Q two = moves[j][a[m]][axis].minus(moves[j][b[m]][axis]);
                        form[i][j] = form[i][j].plus(one.times(two).times(Q.of(pull[m])));
                    }
                }
            }
        }
        return Q.isAboveNought(form);
    }

    private void due(String what, Q got, Q want) {
        if (!got.top.equals(want.top) || !got.bottom.equals(want.bottom)) {
            Check.wrong(what + " is " + got.top + "/" + got.bottom + ", due is " + want.top + "/" + want.bottom
                    + " in " + java.util.Arrays.toString(numbers));
        }
    }
}
