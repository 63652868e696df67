/** Nets that several tests use. */
final class Nets {
    private Nets() {
    }

    // A joint in the middle of two fixed ones in a line; the sorts of its two members are told.
    static TensionNet line(int one, int two) {
        return Check.bench(3, 0, 0, 1, 4, 0, 1, 2, 0, 0, 2, 0, 2, one, 2, 1, two);
    }

    // A roof of two bars over two fixed joints.
    static TensionNet roof() {
        return Check.bench(3, 0, 0, 1, 4, 0, 1, 2, 1, 0, 2, 0, 2, 0, 1, 2, 0);
    }

    // Joints 0 and 2 fixed, 1 and 3 free, as a square with both diagonals, and its first side twice.
    static TensionNet square() {
        return Check.bench(4, 0, 0, 1, 3, 0, 0, 3, 3, 1, 0, 3, 0,
                7, 0, 1, 0, 1, 2, 0, 2, 3, 0, 3, 0, 0, 0, 2, 1, 1, 3, 1, 1, 0, 2);
    }

    // A free joint at 0, 0 with members of the told sorts to fixed joints on both sides in a line.
    static TensionNet star(int... sorts) {
        long[] numbers = new long[1 + 3 * (sorts.length + 1) + 1 + 3 * sorts.length];
        int at = 0;
        numbers[at++] = sorts.length + 1;
        at += 3;
        int[] x = {1, -1, 2, -3, 4};
        for (int i = 0; i < sorts.length; i++) {
            numbers[at++] = x[i];
            numbers[at++] = 0;
            numbers[at++] = 1;
        }
        numbers[at++] = sorts.length;
        for (int i = 0; i < sorts.length; i++) {
            numbers[at++] = 0;
            numbers[at++] = i + 1;
            numbers[at++] = sorts[i];
        }
        return Check.bench(numbers);
    }

    // A chain of seven free joints from a fixed one on.
    static TensionNet longChain() {
        long[] numbers = new long[47];
        numbers[0] = 8;
        for (int j = 0; j < 8; j++) {
            numbers[1 + 3 * j] = j;
        }
        numbers[3] = 1;
        numbers[25] = 7;
        for (int m = 0; m < 7; m++) {
            numbers[26 + 3 * m] = m;
            numbers[27 + 3 * m] = m + 1;
        }
        TensionNet x = Check.bench(numbers);
        int[] primes = {997, 991, 983, 977, 971, 967, 953};
        for (int m = 0; m < 7; m++) {
            x.pull(m, primes[m]);
        }
        x.load(7, 1000, -1000);
        return x;
    }
}
