import java.util.ArrayList;
import java.util.List;

/**
 * The document's words once more, in the plainest form that the library's numbers allow: nothing is kept that could be
 * worked out again. Runs of calls on a bench are judged by it.
 */
final class Model {
    private final long[][] rows = new long[8][];
    private final int[] widths = new int[8];
    Q result = Q.of(0);

    private int[][] place = {{0, 0}};
    private boolean[] fixed = {false};
    private int[][] load = {{0, 0}};
    private int[][] ends = {};
    private int[] sort = {};
    private int[] pull = {};

    int row(int slot, int width, int n) {
        if (slot < 0 || slot > 7 || width < 0 || width > 3 || n > 60) {
            return -2;
        }
        if (n < 0) {
            return -3;
        }
        rows[slot] = new long[n];
        widths[slot] = width;
        return 0;
    }

    boolean tear(int slot) {
        boolean had = slot >= 0 && slot <= 7 && rows[slot] != null;
        if (had) {
            rows[slot] = null;
        }
        return had;
    }

    int write(int slot, int i, long v) {
        if (slot < 0 || slot > 7) {
            return -2;
        }
        if (rows[slot] == null) {
            return -5;
        }
        if (i < 0 || i >= rows[slot].length) {
            return -6;
        }
        int unused = 64 - (8 << widths[slot]);
        rows[slot][i] = v << unused >> unused;
        return 0;
    }

    /** The numbers of a row one by one; a refusal ends the reading. */
    private static final class Reader {
        private final long[] row;
        private int at;
        int refusal;

        Reader(long[] row) {
            this.row = row;
        }

        int next(int low, int high) {
            if (refusal == 0 && at == row.length) {
                refusal = -6;
            }
            if (refusal == 0 && (row[at] < low || row[at] > high)) {
                refusal = -4;
            }
            return refusal == 0 ? (int) row[at++] : low;
        }
    }

    int net(int slot) {
        if (slot < 0 || slot > 7) {
            return -2;
        }
        if (rows[slot] == null) {
            return -5;
        }
        Reader reader = new Reader(rows[slot]);
        int joints = reader.next(1, 8);
        int[][] newPlace = new int[joints][2];
        boolean[] newFixed = new boolean[joints];
        for (int j = 0; j < joints; j++) {
            newPlace[j][0] = reader.next(-20, 20);
            newPlace[j][1] = reader.next(-20, 20);
            newFixed[j] = reader.next(0, 1) == 1;
        }
        int members = reader.next(0, 14);
        int[][] newEnds = new int[members][2];
        int[] newSort = new int[members];
        for (int m = 0; m < members; m++) {
            int a = reader.next(0, joints - 1);
            int b = reader.next(0, joints - 1);
            if (reader.refusal == 0 && (a == b
                    || newPlace[a][0] == newPlace[b][0] && newPlace[a][1] == newPlace[b][1])) {
                return -4;
            }
            newEnds[m][0] = a;
            newEnds[m][1] = b;
            newSort[m] = reader.next(0, 2);
        }
        if (reader.refusal != 0) {
            return reader.refusal;
        }
        place = newPlace;
        fixed = newFixed;
        ends = newEnds;
        sort = newSort;
        load = new int[joints][2];
        pull = new int[members];
        return members;
    }

    private boolean isJoint(int joint) {
        return joint >= 0 && joint < place.length;
    }

    private boolean isMember(int member) {
        return member >= 0 && member < ends.length;
    }

    int load(int joint, int x, int y) {
        if (!isJoint(joint)) {
            return -2;
        }
        if (x < -1000 || x > 1000 || y < -1000 || y > 1000) {
            return -4;
        }
        load[joint] = new int[] {x, y};
        return 0;
    }

    int pull(int member, int v) {
        if (!isMember(member)) {
            return -2;
        }
        if (v < -1000 || v > 1000) {
            return -4;
        }
        pull[member] = v;
        return 0;
    }

    // What a pull of 1 in a member does at a joint.
    private int does(int member, int joint, int axis) {
        int a = ends[member][0];
        int b = ends[member][1];
        return joint == a ? place[b][axis] - place[a][axis] : joint == b ? place[a][axis] - place[b][axis] : 0;
    }

    private int at(int joint, int axis, boolean withLoad) {
        int sum = withLoad ? load[joint][axis] : 0;
        for (int m = 0; m < ends.length; m++) {
            sum += pull[m] * does(m, joint, axis);
        }
        return sum;
    }

    // Joint and axis of each move, in their order.
    private int[][] moves() {
        List<int[]> moves = new ArrayList<>();
        for (int j = 0; j < place.length; j++) {
            if (!fixed[j]) {
                moves.add(new int[] {j, 0});
                moves.add(new int[] {j, 1});
            }
        }
        return moves.toArray(new int[0][]);
    }

    // The equations of EVEN: a column for each member, and one for the other side.
    private Q.Solved forces(boolean withLoads) {
        int[][] moves = moves();
        Q[][] table = new Q[moves.length][ends.length + 1];
        for (int r = 0; r < moves.length; r++) {
            for (int m = 0; m < ends.length; m++) {
                table[r][m] = Q.of(does(m, moves[r][0], moves[r][1]));
            }
            table[r][ends.length] = Q.of(withLoads ? -load[moves[r][0]][moves[r][1]] : 0);
        }
        return new Q.Solved(table, ends.length);
    }

    // The equations of a WAY: a column for each move.
    private Q.Solved stretches() {
        int[][] moves = moves();
        Q[][] table = new Q[ends.length][moves.length + 1];
        for (int m = 0; m < ends.length; m++) {
            for (int c = 0; c < moves.length; c++) {
                table[m][c] = Q.of(does(m, moves[c][0], moves[c][1]));
            }
            table[m][moves.length] = Q.of(0);
        }
        return new Q.Solved(table, moves.length);
    }

    // The equations of THE SHAPE in an axis: a column for each joint.
    private Q.Solved places(int axis) {
        int joints = place.length;
        int[][] table = new int[joints][joints + 1];
        for (int j = 0; j < joints; j++) {
            table[j][joints] = fixed[j] ? place[j][axis] : load[j][axis];
            table[j][j] = fixed[j] ? 1 : 0;
        }
        for (int m = 0; m < ends.length; m++) {
            for (int end = 0; end < 2; end++) {
                int here = ends[m][end];
                if (!fixed[here]) {
                    table[here][here] += pull[m];
                    table[here][ends[m][1 - end]] -= pull[m];
                }
            }
        }
        Q[][] fractions = new Q[joints][joints + 1];
        for (int j = 0; j < joints; j++) {
            for (int c = 0; c <= joints; c++) {
                fractions[j][c] = Q.of(table[j][c]);
            }
        }
        return new Q.Solved(fractions, joints);
    }

    int stresses() {
        return forces(false).free.size();
    }

    boolean stress(int i, int member) {
        Q.Solved solved = forces(false);
        if (i < 0 || i >= solved.free.size() || !isMember(member)) {
            return false;
        }
        result = solved.freely(i)[member];
        return true;
    }

    int ways() {
        return stretches().free.size();
    }

    boolean way(int i, int joint, int axis) {
        Q.Solved solved = stretches();
        if (i < 0 || i >= solved.free.size() || !isJoint(joint) || axis < 0 || axis > 1) {
            return false;
        }
        result = move(solved.freely(i), joint, axis);
        return true;
    }

    private Q move(Q[] way, int joint, int axis) {
        int[][] moves = moves();
        for (int c = 0; c < moves.length; c++) {
            if (moves[c][0] == joint && moves[c][1] == axis) {
                return way[c];
            }
        }
        return Q.of(0);
    }

    private boolean isEven(boolean withLoads) {
        for (int[] move : moves()) {
            if (at(move[0], move[1], withLoads) != 0) {
                return false;
            }
        }
        return true;
    }

    boolean even() {
        return isEven(true);
    }

    boolean left(int joint, int axis) {
        if (!isJoint(joint) || axis < 0 || axis > 1) {
            return false;
        }
        result = Q.of(at(joint, axis, true));
        return true;
    }

    int borne() {
        Q.Solved solved = forces(true);
        return !solved.can ? 0 : solved.free.isEmpty() ? 1 : 2;
    }

    boolean bears(int member) {
        Q.Solved solved = forces(true);
        if (!solved.can || !isMember(member)) {
            return false;
        }
        result = solved.barely()[member];
        return true;
    }

    boolean shaped() {
        return places(0).free.isEmpty();
    }

    boolean shape(int joint, int axis) {
        if (!shaped() || !isJoint(joint) || axis < 0 || axis > 1) {
            return false;
        }
        result = places(axis).barely()[joint];
        return true;
    }

    int tight() {
        Q.Solved solved = forces(false);
        int stresses = solved.free.size();
        if (stresses > 3) {
            return -7;
        }
        List<Q[]> asked = new ArrayList<>();
        for (int m = 0; m < ends.length; m++) {
            Q[] row = new Q[stresses];
            for (int i = 0; i < stresses; i++) {
                row[i] = solved.freely(i)[m].times(Q.of(sort[m] == 1 ? 1 : -1));
            }
            if (sort[m] != 0) {
                asked.add(row);
            }
        }
        return Q.canAllBeAbove(asked, stresses) ? 1 : 0;
    }

    int stiff() {
        if (!isEven(false)) {
            return 0;
        }
        Q.Solved solved = stretches();
        int ways = solved.free.size();
        if (ways > 3) {
            return -7;
        }
        Q[][] form = new Q[ways][ways];
        for (int i = 0; i < ways; i++) {
            for (int k = 0; k < ways; k++) {
                form[i][k] = Q.of(0);
                for (int m = 0; m < ends.length; m++) {
                    for (int axis = 0; axis < 2; axis++) {
                        Q gaps = gap(solved.freely(i), m, axis).times(gap(solved.freely(k), m, axis));
                        form[i][k] = form[i][k].plus(gaps.times(Q.of(pull[m])));
                    }
                }
            }
        }
        return Q.isAboveNought(form) ? 1 : 0;
    }

    private Q gap(Q[] way, int member, int axis) {
        return move(way, ends[member][0], axis).minus(move(way, ends[member][1], axis));
    }

    int look(int what) {
        return what == 0 ? result.sign() : what == 1 ? partsOf(false) : what == 2 ? partsOf(true) : -1;
    }

    private String digits(boolean bottom) {
        return (bottom ? result.bottom : result.top.abs()).toString();
    }

    private int partsOf(boolean bottom) {
        return (digits(bottom).length() + 8) / 9;
    }

    int part(boolean bottom, int i) {
        if (i < 0 || i >= partsOf(bottom)) {
            return 0;
        }
        String digits = digits(bottom);
        int end = digits.length() - 9 * i;
        return Integer.parseInt(digits.substring(Math.max(0, end - 9), end));
    }

    int told(int k, int what) {
        if (what >= 0 && what <= 4 && isJoint(k)) {
            return what < 2 ? place[k][what] : what == 2 ? fixed[k] ? 1 : 0 : load[k][what - 3];
        }
        if (what >= 10 && what <= 14 && isMember(k)) {
            return what < 12 ? ends[k][what - 10] : what == 12 ? sort[k] : what == 13 ? pull[k]
                    : forces(false).free.contains(k) ? 0 : 1;
        }
        return 0;
    }

    int count(int what) {
        int filled = 0;
        for (long[] row : rows) {
            filled += row == null ? 0 : 1;
        }
        return what == 0 ? place.length : what == 1 ? moves().length / 2 : what == 2 ? ends.length
                : what == 3 ? filled : -1;
    }
}
