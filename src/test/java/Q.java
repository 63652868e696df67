import java.math.BigInteger;
import java.util.ArrayList;
import java.util.List;

/** A fraction in lowest terms, on the library's numbers, and what the tests ask of tables of them. */
final class Q {
    final BigInteger top;
    final BigInteger bottom;

    private Q(BigInteger top, BigInteger bottom) {
        BigInteger common = top.gcd(bottom).multiply(BigInteger.valueOf(bottom.signum()));
        this.top = top.divide(common);
        this.bottom = bottom.divide(common);
    }

    static Q of(long v) {
        return new Q(BigInteger.valueOf(v), BigInteger.ONE);
    }

    static Q told(TensionNet bench) {
        BigInteger top = Check.top(bench);
        BigInteger bottom = Check.bottom(bench);
        Check.due("bottom is above 0", bottom.signum(), 1);
        Check.due("lowest terms", top.gcd(bottom).equals(BigInteger.ONE), true);
        return new Q(top, bottom);
    }

    int sign() {
        return top.signum();
    }

    Q plus(Q q) {
        return new Q(top.multiply(q.bottom).add(q.top.multiply(bottom)), bottom.multiply(q.bottom));
    }

    Q minus(Q q) {
        return new Q(top.multiply(q.bottom).subtract(q.top.multiply(bottom)), bottom.multiply(q.bottom));
    }

    Q times(Q q) {
        return new Q(top.multiply(q.top), bottom.multiply(q.bottom));
    }

    Q over(Q q) {
        return new Q(top.multiply(q.bottom), bottom.multiply(q.top));
    }

    static int rank(Q[][] rows) {
        int rank = 0;
        int columns = rows.length == 0 ? 0 : rows[0].length;
        for (int c = columns - 1; c >= 0 && rank < rows.length; c--) {
            int found = rank;
            while (found < rows.length && rows[found][c].sign() == 0) {
                found++;
            }
            if (found == rows.length) {
                continue;
            }
            Q[] pivot = rows[found];
            rows[found] = rows[rank];
            rows[rank] = pivot;
            for (int r = rank + 1; r < rows.length; r++) {
                if (rows[r][c].sign() != 0) {
                    Q times = rows[r][c].over(pivot[c]);
                    for (int k = 0; k <= c; k++) {
                        rows[r][k] = rows[r][k].minus(times.times(pivot[k]));
                    }
                }
            }
            rank++;
        }
        return rank;
    }

    /** Whether some numbers have a product above 0 with each row: Fourier and Motzkin's elimination. */
    static boolean canAllBeAbove(List<Q[]> rows, int unknowns) {
        if (unknowns == 0) {
            return rows.isEmpty();
        }
        int last = unknowns - 1;
        List<Q[]> less = new ArrayList<>();
        for (Q[] one : rows) {
            if (one[last].sign() == 0) {
                less.add(one);
            }
            for (Q[] two : rows) {
                if (one[last].sign() > 0 && two[last].sign() < 0) {
                    Q[] row = new Q[unknowns];
                    for (int i = 0; i < unknowns; i++) {
                        row[i] = two[i].times(one[last]).minus(one[i].times(two[last]));
                    }
                    less.add(row);
                }
            }
        }
        return canAllBeAbove(less, last);
    }

    /** Whether a form is above 0 but for noughts, by completing of squares. */
    static boolean isAboveNought(Q[][] form) {
        for (int i = 0; i < form.length; i++) {
            if (form[i][i].sign() <= 0) {
                return false;
            }
            for (int r = i + 1; r < form.length; r++) {
                Q times = form[r][i].over(form[i][i]);
                for (int c = 0; c < form.length; c++) {
                    form[r][c] = form[r][c].minus(times.times(form[i][c]));
                }
            }
        }
        return true;
    }

    /** Equations with a last column for their other side, each solved for the first unknown that it can be. */
    static final class Solved {
        final List<Integer> free = new ArrayList<>();
        final boolean can;
        private final Q[][] rows;
        private final int unknowns;
        private final int[] rowOf;

        Solved(Q[][] rows, int unknowns) {
            this.rows = rows;
            this.unknowns = unknowns;
            rowOf = new int[unknowns];
            int rank = 0;
            for (int c = 0; c < unknowns; c++) {
                int found = rank;
                while (found < rows.length && rows[found][c].sign() == 0) {
                    found++;
                }
                rowOf[c] = found < rows.length ? rank : -1;
                if (found == rows.length) {
                    free.add(c);
                } else {
                    solve(found, rank++, c);
                }
            }
            boolean solvable = true;
            for (int r = rank; r < rows.length; r++) {
                solvable = solvable && rows[r][unknowns].sign() == 0;
            }
            can = solvable;
        }

        private void solve(int found, int to, int c) {
            Q[] row = rows[found];
            rows[found] = rows[to];
            rows[to] = row;
            Q first = row[c];
            for (int k = 0; k <= unknowns; k++) {
                row[k] = row[k].over(first);
            }
            for (Q[] other : rows) {
                Q times = other[c];
                for (int k = 0; k <= unknowns && other != row && times.sign() != 0; k++) {
                    other[k] = other[k].minus(times.times(row[k]));
                }
            }
        }

        /** The solution without the other side that is 1 at the i-th free unknown and 0 at the other free ones. */
        Q[] freely(int i) {
            Q[] solution = new Q[unknowns];
            for (int c = 0; c < unknowns; c++) {
                solution[c] = rowOf[c] < 0 ? of(free.get(i) == c ? 1 : 0)
                        : of(0).minus(rows[rowOf[c]][free.get(i)]);
            }
            return solution;
        }

        /** The solution that is 0 at the free unknowns. */
        Q[] barely() {
            Q[] solution = new Q[unknowns];
            for (int c = 0; c < unknowns; c++) {
                solution[c] = rowOf[c] < 0 ? of(0) : rows[rowOf[c]][unknowns];
            }
            return solution;
        }
    }
}
