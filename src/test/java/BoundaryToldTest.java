/**
 * The boundary cases that the document names of what is told to a bench and read from it: LOADS, TOLD PULLS and what
 * they come to, the RESULT, told and count (promises 6, 7, 12, 13 and 20 to 23). A test for each such sentence, on
 * either side of the boundary.
 */
public final class BoundaryToldTest {
    private static final int LOW = Integer.MIN_VALUE;
    private static final int HIGH = Integer.MAX_VALUE;
    private static final int[] BEYOND = {-1001, 1001, -1002, 1002, LOW, HIGH};
    private static final int[] ENDS = {-1000, 1000, -999, 999, 0};

    private BoundaryToldTest() {
    }

    public static void main(String[] args) {
        loadOfNoSuchJoint();
        loadBeyondItsEnds();
        loadOfAFixedJointDoesNotMatter();
        loadRefusedLeavesBothNumbers();
        pullOfNoSuchMember();
        pullBeyondItsEnds();
        pullRefusedLeavesIt();
        loadsAndPullsAreNoughtAtFirst();
        evenIsExact();
        evenInBothAxes();
        evenAtAllFreeJointsAlone();
        leftOfNoSuchJoint();
        leftOfNoSuchAxis();
        leftOfAFixedJoint();
        leftAtTheEndsOfItsRange();
        resultIsInLowestTerms();
        resultHasABottomAboveNought();
        lookAtTheSign();
        lookAtAnotherWhat();
        lookAtPartsOfNineDigits();
        lookAtNought();
        partsOfNineDigits();
        partWhereThereIsNone();
        partOfAShortResultAfterALongOne();
        toldOfNoSuchJointOrMember();
        toldOfAnotherWhat();
        toldWhetherFixed();
        toldWhetherLed();
        countOfAnotherWhat();
        countOfSlots();
        countOfJointsAndMembers();
        Check.end();
    }

    // Three free joints in a chain from a fixed one at 0, 0, the last two bound to it as well; pulls in the order of
    // the document's numbers: 0 to 1, 1 to 2, 2 to 3, 0 to 2, 0 to 3. The last joint has a load along x.
    private static TensionNet hung(int load, int... pulls) {
        TensionNet x = Check.bench(4, 0, 0, 1, 1, 0, 0, 2, 0, 0, 3, 0, 0,
                5, 0, 1, 0, 1, 2, 0, 2, 3, 0, 0, 2, 0, 0, 3, 0);
        for (int m = 0; m < pulls.length; m++) {
            Check.due("pull", x.pull(m, pulls[m]), 0);
        }
        Check.due("load", x.load(3, load, 0), 0);
        return x;
    }

    // Fourteen members from the lower left corner, which is fixed, to the upper right.
    private static TensionNet thick() {
        long[] numbers = new long[50];
        long[] joints = {2, -20, -20, 1, 20, 20, 0, 14};
        System.arraycopy(joints, 0, numbers, 0, 8);
        for (int m = 0; m < 14; m++) {
            numbers[9 + 3 * m] = 1;
        }
        return Check.bench(numbers);
    }

    // "-2: there is no such JOINT", ahead of the numbers
    private static void loadOfNoSuchJoint() {
        TensionNet x = Nets.roof();
        int[] none = {-1, 3, 8, LOW, HIGH};
        for (int joint : none) {
            Check.due("6 joint " + joint, x.load(joint, 0, 0), -2);
            Check.due("6 joint ahead of x", x.load(joint, 1001, 0), -2);
            Check.due("6 joint ahead of y", x.load(joint, 0, -1001), -2);
        }
        Check.due("6 the first joint", x.load(0, 1, 1), 0);
        Check.due("6 the last joint", x.load(2, 1, 1), 0);
        TensionNet eight = Check.bench(8, 0, 0, 0, 0, 0, 0, 0, 0, 0, 0, 0, 0, 0, 0, 0, 0, 0, 0, 0, 0, 0, 0, 0, 0, 0);
        Check.due("6 the eighth joint", eight.load(7, 1, 1), 0);
        Check.due("6 no ninth joint", eight.load(8, 1, 1), -2);
    }

    // "-4: a number is not -1000 to 1000"
    private static void loadBeyondItsEnds() {
        TensionNet x = Nets.roof();
        for (int v : BEYOND) {
            Check.due("6 x " + v, x.load(2, v, 0), -4);
            Check.due("6 y " + v, x.load(2, 0, v), -4);
            Check.due("6 both " + v, x.load(2, v, v), -4);
            Check.due("6 of a fixed one " + v, x.load(0, v, 0), -4);
        }
        for (int v : ENDS) {
            Check.due("6 x " + v, x.load(2, v, 1), 0);
            Check.due("6 x is " + v, x.told(2, 3), v);
            Check.due("6 y beside " + v, x.told(2, 4), 1);
            Check.due("6 y " + v, x.load(2, 1, v), 0);
            Check.due("6 y is " + v, x.told(2, 4), v);
            Check.due("6 x beside " + v, x.told(2, 3), 1);
        }
    }

    // "(of a FIXED one it does not matter)"
    private static void loadOfAFixedJointDoesNotMatter() {
        TensionNet x = Nets.line(1, 1);
        x.pull(0, 3);
        x.pull(1, 3);
        Check.due("6 load of a fixed one", x.load(0, 1000, -1000), 0);
        Check.due("6 even", x.even(), true);
        Check.due("6 borne", x.borne(), 2);
        Check.result("6 bears", x, x.bears(0), 0, 1);
        Check.result("6 shape", x, x.shape(2, 0), 2, 1);
        Check.result("6 shape of the fixed one", x, x.shape(0, 0), 0, 1);
        Check.due("6 stiff", x.stiff(), 1);
        x.load(0, 0, 0);
        Check.due("6 load of a free one", x.load(2, 0, 1), 0);
        Check.due("6 not even", x.even(), false);
        Check.due("6 not borne", x.borne(), 0);
        Check.result("6 another shape", x, x.shape(2, 1), 1, 6);
    }

    // "Each call that is refused .. changes nothing"
    private static void loadRefusedLeavesBothNumbers() {
        TensionNet x = Nets.roof();
        x.load(2, 3, 5);
        x.bears(0);
        String before = Check.state(x);
        Check.refused("6 x", x, before, x.load(2, 1001, 7), -4);
        Check.refused("6 y", x, before, x.load(2, 7, 1001), -4);
        Check.refused("6 joint", x, before, x.load(3, 7, 7), -2);
        Check.result("6 what bears stays", x, x.bears(1), 7, 4);
    }

    // "-2: there is no such MEMBER", ahead of the number
    private static void pullOfNoSuchMember() {
        TensionNet x = Nets.roof();
        int[] none = {-1, 2, 14, LOW, HIGH};
        for (int member : none) {
            Check.due("7 member " + member, x.pull(member, 0), -2);
            Check.due("7 member ahead of the number", x.pull(member, 1001), -2);
        }
        Check.due("7 the first member", x.pull(0, 1), 0);
        Check.due("7 the last member", x.pull(1, 1), 0);
        Check.due("7 the fourteenth member", thick().pull(13, 1), 0);
        Check.due("7 no fifteenth member", thick().pull(14, 1), -2);
        Check.due("7 none of a new one", new TensionNet().pull(0, 1), -2);
    }

    // "numbers -1000 to 1000", "-4"
    private static void pullBeyondItsEnds() {
        TensionNet x = Nets.roof();
        for (int v : BEYOND) {
            Check.due("7 number " + v, x.pull(1, v), -4);
        }
        for (int v : ENDS) {
            Check.due("7 number " + v, x.pull(1, v), 0);
            Check.due("7 is " + v, x.told(1, 13), v);
            Check.due("7 beside " + v, x.told(0, 13), 0);
        }
    }

    // "Each call that is refused .. changes nothing"
    private static void pullRefusedLeavesIt() {
        TensionNet x = Nets.roof();
        x.pull(0, 3);
        x.pull(1, 4);
        x.shape(2, 0);
        String before = Check.state(x);
        Check.refused("7 number", x, before, x.pull(0, 1001), -4);
        Check.refused("7 member", x, before, x.pull(2, 7), -2);
        Check.result("7 the shape stays", x, x.shape(2, 0), 16, 7);
    }

    // "(.. all 0 at first)"
    private static void loadsAndPullsAreNoughtAtFirst() {
        TensionNet x = thick();
        for (int k = 0; k < 14; k++) {
            Check.due("load at first", x.told(k, 3) == 0 && x.told(k, 4) == 0, true);
            Check.due("pull at first", x.told(k, 13), 0);
        }
        Check.due("even at first", x.even(), true);
    }

    // "come to 0": one too much, or too little, is not even
    private static void evenIsExact() {
        TensionNet x = thick();
        for (int m = 0; m < 14; m++) {
            x.pull(m, m % 2 == 0 ? 1000 : -1000);
        }
        Check.due("12 all in all 0", x.even(), true);
        x.pull(13, -999);
        Check.due("12 one pull less", x.even(), false);
        x.load(1, 40, 40);
        Check.due("12 held by the load", x.even(), true);
        x.load(1, 39, 40);
        Check.due("12 x one less", x.even(), false);
        x.load(1, 41, 40);
        Check.due("12 x one more", x.even(), false);
        x.load(1, 40, 39);
        Check.due("12 y one less", x.even(), false);
        x.load(1, 40, 41);
        Check.due("12 y one more", x.even(), false);
        x.load(1, 40, 40);
        Check.due("12 held again", x.even(), true);
        x.load(1, -40, -40);
        Check.due("12 loads the other way", x.even(), false);
    }

    // "for x, and for y": they do not make up for each other
    private static void evenInBothAxes() {
        TensionNet x = new TensionNet();
        int[][] loads = {{0, 0, 1}, {1, 0, 0}, {0, 1, 0}, {1, -1, 0}, {1, 1, 0}, {-1, 0, 0}, {0, -1, 0}};
        for (int[] load : loads) {
            x.load(0, load[0], load[1]);
            Check.due("12 load " + load[0] + ", " + load[1], x.even(), load[2] == 1);
        }
    }

    // "they are EVEN if they are so at all FREE JOINTS"
    private static void evenAtAllFreeJointsAlone() {
        for (int fixed = 0; fixed < 8; fixed++) {
            TensionNet x = Check.bench(3, 0, 0, fixed & 1, 1, 0, fixed / 2 & 1, 0, 1, fixed / 4, 0);
            for (int joint = 0; joint < 3; joint++) {
                x.load(joint, 0, 1);
                Check.due("12 joint " + joint + " of " + fixed, x.even(), (fixed >> joint & 1) == 1);
                x.load(joint, 0, 0);
            }
        }
    }

    // "false if there is none such": no such JOINT
    private static void leftOfNoSuchJoint() {
        TensionNet x = Nets.roof();
        x.load(2, 9, 8);
        x.left(2, 0);
        String before = Check.state(x);
        int[] none = {-1, 3, 8, LOW, HIGH};
        for (int joint : none) {
            Check.refused("13 joint " + joint, x, before, x.left(joint, 0));
            Check.refused("13 joint " + joint, x, before, x.left(joint, 1));
        }
        Check.result("13 the first joint", x, x.left(0, 0), 0, 1);
        Check.result("13 the last joint", x, x.left(2, 1), 8, 1);
    }

    // "false if there is none such": no such axis
    private static void leftOfNoSuchAxis() {
        TensionNet x = Nets.roof();
        x.load(2, 9, 8);
        x.left(2, 0);
        String before = Check.state(x);
        int[] none = {-1, 2, LOW, HIGH};
        for (int axis : none) {
            Check.refused("13 axis " + axis, x, before, x.left(2, axis));
        }
        Check.result("13 axis 0", x, x.left(2, 0), 9, 1);
        Check.result("13 axis 1", x, x.left(2, 1), 8, 1);
    }

    // "(a FIXED one, too)"
    private static void leftOfAFixedJoint() {
        TensionNet x = Nets.roof();
        x.pull(0, 5);
        Check.result("13 fixed x", x, x.left(0, 0), 10, 1);
        Check.result("13 fixed y", x, x.left(0, 1), 5, 1);
        Check.result("13 the free end x", x, x.left(2, 0), -10, 1);
        Check.result("13 the free end y", x, x.left(2, 1), -5, 1);
        Check.result("13 no member of it pulls", x, x.left(1, 0), 0, 1);
        x.load(0, -3, 4);
        Check.result("13 fixed x with its load", x, x.left(0, 0), 7, 1);
        Check.result("13 fixed y with its load", x, x.left(0, 1), 9, 1);
    }

    private static void leftAtTheEndsOfItsRange() {
        TensionNet x = thick();
        for (int sign = -1; sign < 2; sign += 2) {
            for (int m = 0; m < 14; m++) {
                x.pull(m, 1000 * sign);
            }
            x.load(0, 1000 * sign, 1000 * sign);
            x.load(1, -1000 * sign, -1000 * sign);
            Check.result("13 the most of all", x, x.left(0, 0), 561_000L * sign, 1);
            Check.result("13 the least of all", x, x.left(1, 1), -561_000L * sign, 1);
        }
    }

    // "The RESULT is a fraction in lowest terms"
    private static void resultIsInLowestTerms() {
        TensionNet x = Check.bench(2, 0, 0, 1, 1, 0, 0, 1, 0, 1, 1);
        int[][] rows = {{6, 4, 3, 2}, {4, 2, 2, 1}, {1000, 1000, 1, 1}, {1000, 999, 1000, 999}, {999, 1000, 999, 1000},
            {0, 7, 0, 1}, {-1000, 8, -125, 1}, {510, 30, 17, 1}, {30, 510, 1, 17}};
        for (int[] row : rows) {
            x.load(1, row[0], 0);
            x.pull(0, row[1]);
            Check.result("lowest terms of " + row[0] + " / " + row[1], x, x.shape(1, 0), row[2], row[3]);
        }
    }

    // "its bottom above 0"
    private static void resultHasABottomAboveNought() {
        TensionNet x = Check.bench(2, 0, 0, 1, 1, 0, 0, 1, 0, 1, 1);
        int[][] rows = {{5, 3, 5, 3}, {-5, 3, -5, 3}, {5, -3, -5, 3}, {-5, -3, 5, 3}, {0, -3, 0, 1}, {0, 3, 0, 1},
            {7, -7, -1, 1}, {-7, -7, 1, 1}};
        for (int[] row : rows) {
            x.load(1, row[0], 0);
            x.pull(0, row[1]);
            Check.result("bottom above 0 of " + row[0] + " / " + row[1], x, x.shape(1, 0), row[2], row[3]);
            Check.due("the sign is the top's", x.look(0), Integer.signum(row[2]));
        }
    }

    // "0 1, 0 or -1, as it is above 0, 0, below"
    private static void lookAtTheSign() {
        TensionNet x = new TensionNet();
        int[] loads = {1, 0, -1, 1000, 0, -1000};
        for (int v : loads) {
            x.load(0, v, 0);
            x.left(0, 0);
            Check.due("20 sign of " + v, x.look(0), Integer.signum(v));
        }
    }

    // "NONE for another what"
    private static void lookAtAnotherWhat() {
        TensionNet x = Nets.roof();
        x.load(2, 5, 0);
        x.left(2, 0);
        int[] none = {-1, 3, LOW, HIGH};
        for (int what : none) {
            Check.due("20 look(" + what + ")", x.look(what), TensionNet.NONE);
        }
        for (int what = 0; what < 3; what++) {
            Check.due("20 look(" + what + ")", x.look(what), 1);
        }
    }

    // "how many parts of nine digits": 999999999 has one, 1000000000 two
    private static void lookAtPartsOfNineDigits() {
        TensionNet x = hung(999, 97, 693, 371, 811, 721);
        Check.result("20 nine digits on top", x, x.shape(3, 0), 999_999_999L, 984_356_702L);
        Check.due("20 parts of the top", x.look(1), 1);
        Check.due("20 parts of the bottom", x.look(2), 1);
        x = hung(-1000, 681, 736, 579, -227, 452);
        Check.result("20 ten digits on top", x, x.shape(3, 0), -1_000_000_000L, 555_963_503L);
        Check.due("20 its sign", x.look(0), -1);
        Check.due("20 two parts of the top", x.look(1), 2);
        Check.due("20 one part of the bottom", x.look(2), 1);
        x = hung(1, 815, 301, 856, 372, 269);
        Check.result("20 nine digits below", x, x.shape(1, 0), 257_656L, 999_999_999L);
        Check.due("20 one part of the bottom", x.look(2), 1);
        x = hung(1, 74, 819, 689, 982, 228);
        Check.result("20 ten digits below", x, x.shape(1, 0), 564_291L, 1_000_000_000L);
        Check.due("20 one part of the top", x.look(1), 1);
        Check.due("20 two parts of the bottom", x.look(2), 2);
    }

    // "(without sign; 1 of 0)"
    private static void lookAtNought() {
        TensionNet x = Nets.longChain();
        x.shape(7, 1);
        Check.due("20 a long top", x.look(1) > 1, true);
        Check.due("20 a long bottom", x.look(2) > 1, true);
        x.left(0, 1);
        Check.result("20 nought after it", x, 0, 1);
        Check.due("20 sign of 0", x.look(0), 0);
        Check.due("20 parts of 0", x.look(1), 1);
        Check.due("20 parts of its bottom", x.look(2), 1);
    }

    // "Part i (nine digits each, the lowest first) of the top (without sign), or the bottom"
    private static void partsOfNineDigits() {
        TensionNet x = hung(-1000, 681, 736, 579, -227, 452);
        x.shape(3, 0);
        Check.due("21 lowest of the top", x.part(false, 0), 0);
        Check.due("21 highest of the top", x.part(false, 1), 1);
        Check.due("21 the bottom", x.part(true, 0), 555_963_503);
        x = hung(1, 74, 819, 689, 982, 228);
        x.shape(1, 0);
        Check.due("21 the top", x.part(false, 0), 564_291);
        Check.due("21 lowest of the bottom", x.part(true, 0), 0);
        Check.due("21 highest of the bottom", x.part(true, 1), 1);
        x = hung(999, 97, 693, 371, 811, 721);
        x.shape(3, 0);
        Check.due("21 all nines", x.part(false, 0), 999_999_999);
        x = hung(-999, 97, 693, 371, 811, 721);
        x.shape(3, 0);
        Check.due("21 all nines without sign", x.part(false, 0), 999_999_999);
    }

    // "0 where there is none such"
    private static void partWhereThereIsNone() {
        TensionNet x = hung(-1000, 681, 736, 579, -227, 452);
        x.shape(3, 0);
        int[] none = {-1, 2, 3, 35, 36, 37, 1000, LOW, HIGH};
        for (int i : none) {
            Check.due("21 part " + i + " of the top", x.part(false, i), 0);
            Check.due("21 part " + i + " of the bottom", x.part(true, i), 0);
        }
        Check.due("21 the top has two", x.part(false, 1), 1);
        Check.due("21 the bottom has one", x.part(true, 1), 0);
    }

    private static void partOfAShortResultAfterALongOne() {
        TensionNet x = Nets.longChain();
        x.shape(7, 1);
        Check.due("21 a long top", x.part(false, 1) != 0, true);
        Check.due("21 a long bottom", x.part(true, 1) != 0, true);
        x.load(7, 5, 5);
        x.left(0, 0);
        for (int i = 1; i < 4; i++) {
            Check.due("21 no part " + i + " of the top", x.part(false, i), 0);
            Check.due("21 no part " + i + " of the bottom", x.part(true, i), 0);
        }
    }

    // "0 if there is none such"; there are three joints and five members, then seven joints and two members
    private static void toldOfNoSuchJointOrMember() {
        TensionNet x = Check.bench(3, 7, 7, 1, 8, 9, 1, 5, 5, 0,
                5, 1, 2, 1, 1, 2, 2, 2, 1, 1, 1, 2, 2, 2, 1, 2);
        TensionNet y = Check.bench(7, 7, 7, 1, 7, 8, 1, 7, 9, 1, 8, 7, 1, 8, 8, 1, 8, 9, 1, 9, 7, 1,
                2, 1, 2, 1, 3, 4, 2);
        // Before they are few, both have been many: what stood behind must not be told.
        Check.due("22 fewer", Check.build(x, 3, 2, 7, 7, 1, 8, 9, 1, 1, 1, 0, 2), 1);
        Check.due("22 more again", x.net(7), 5);
        judgeTold(x, 3, 5);
        judgeTold(y, 7, 2);
        x.net(3);
        judgeTold(x, 2, 1);
        judgeTold(new TensionNet(), 1, 0);
    }

    private static void judgeTold(TensionNet x, int joints, int members) {
        for (int k = 0; k < joints; k++) {
            x.load(k, 5, 6);
        }
        for (int k = 0; k < members; k++) {
            x.pull(k, 9);
        }
        Check.due("22 the last joint's load", x.told(joints - 1, 3), 5);
        Check.due("22 the last joint's load", x.told(joints - 1, 4), 6);
        Check.due("22 the last member's pull", x.told(members - 1, 13), members > 0 ? 9 : 0);
        int[] none = {-1, LOW, HIGH, 8, 14, 15};
        for (int what = 0; what < 15; what++) {
            for (int k : none) {
                Check.due("22 none such " + k + " tells " + what, x.told(k, what), 0);
            }
            for (int k = what < 10 ? joints : members; k < 16; k++) {
                Check.due("22 none such " + k + " tells " + what, x.told(k, what), 0);
            }
        }
    }

    // ".. or for another what"
    private static void toldOfAnotherWhat() {
        TensionNet x = Check.bench(2, 3, 4, 1, 5, 6, 1, 1, 1, 0, 2);
        x.load(0, 7, 8);
        x.load(1, 7, 8);
        x.pull(0, 9);
        int[] joint = {3, 4, 1, 7, 8};
        int[] member = {1, 0, 2, 9, 0};
        for (int i = 0; i < 5; i++) {
            Check.due("22 told(0, " + i + ")", x.told(0, i), joint[i]);
            Check.due("22 told(0, " + (10 + i) + ")", x.told(0, 10 + i), member[i]);
        }
        int[] none = {-1, 5, 6, 7, 8, 9, 15, 16, 20, LOW, HIGH};
        for (int what : none) {
            Check.due("22 told(0, " + what + ")", x.told(0, what), 0);
            Check.due("22 told(1, " + what + ")", x.told(1, what), 0);
        }
    }

    // "2 whether it is FIXED (1, 0)"
    private static void toldWhetherFixed() {
        TensionNet x = Check.bench(3, 0, 0, 1, 0, 0, 0, 0, 0, 1, 0);
        Check.due("22 fixed", x.told(0, 2), 1);
        Check.due("22 free", x.told(1, 2), 0);
        Check.due("22 fixed again", x.told(2, 2), 1);
        Check.due("22 free of a new one", new TensionNet().told(0, 2), 0);
    }

    // "14 whether it is LED (1, 0)": a member is free if it, and not those ahead of it, adds a stress
    private static void toldWhetherLed() {
        TensionNet line = Nets.line(0, 0);
        Check.due("22 the first in a line is led", line.told(0, 14), 1);
        Check.due("22 the second is free", line.told(1, 14), 0);
        TensionNet roof = Nets.roof();
        Check.due("22 the first of a roof is led", roof.told(0, 14), 1);
        Check.due("22 the second of a roof is led", roof.told(1, 14), 1);
        TensionNet fixed = Check.bench(2, 0, 0, 1, 1, 0, 1, 1, 0, 1, 0);
        Check.due("22 between fixed joints it is free", fixed.told(0, 14), 0);
        // Up, down and right: the second adds a stress, the third does not.
        TensionNet three = Check.bench(4, 0, 0, 0, 0, 1, 1, 0, -1, 1, 1, 0, 1, 3, 0, 1, 0, 0, 2, 0, 0, 3, 0);
        Check.due("22 up", three.told(0, 14), 1);
        Check.due("22 down", three.told(1, 14), 0);
        Check.due("22 right", three.told(2, 14), 1);
        three.pull(0, 5);
        three.load(0, 5, 5);
        Check.due("22 pulls and loads do not matter", three.told(1, 14), 0);
    }

    // "NONE for another what"
    private static void countOfAnotherWhat() {
        TensionNet x = Nets.roof();
        int[] none = {-1, 4, LOW, HIGH};
        for (int what : none) {
            Check.due("23 count(" + what + ")", x.count(what), TensionNet.NONE);
        }
        int[] due = {3, 1, 2, 1};
        for (int what = 0; what < 4; what++) {
            Check.due("23 count(" + what + ")", x.count(what), due[what]);
        }
    }

    // "3 SLOTS that have a ROW": 0 to 8
    private static void countOfSlots() {
        TensionNet x = new TensionNet();
        Check.due("23 none", x.count(3), 0);
        for (int slot = 7; slot >= 0; slot--) {
            x.row(slot, slot % 4, slot);
            Check.due("23 one more", x.count(3), 8 - slot);
            x.row(slot, 0, 3);
            Check.due("23 in place of another", x.count(3), 8 - slot);
            x.row(slot, 0, 61);
            Check.due("23 a refused one", x.count(3), 8 - slot);
        }
        for (int slot = 0; slot < 8; slot++) {
            x.tear(slot);
            Check.due("23 one less", x.count(3), 7 - slot);
            x.tear(slot);
            Check.due("23 nothing to tear", x.count(3), 7 - slot);
        }
    }

    // "0 JOINTS, 1 FREE ones, 2 MEMBERS": from none or one to as many as there can be
    private static void countOfJointsAndMembers() {
        TensionNet fixed = Check.bench(1, 0, 0, 1, 0);
        Check.due("23 one joint", fixed.count(0), 1);
        Check.due("23 none free", fixed.count(1), 0);
        Check.due("23 no member", fixed.count(2), 0);
        TensionNet free = Check.bench(8, 0, 0, 0, 0, 0, 0, 0, 0, 0, 0, 0, 0, 0, 0, 0, 0, 0, 0, 0, 0, 0, 0, 0, 0, 0);
        Check.due("23 eight joints", free.count(0), 8);
        Check.due("23 eight free", free.count(1), 8);
        TensionNet thick = thick();
        Check.due("23 two joints", thick.count(0), 2);
        Check.due("23 one free", thick.count(1), 1);
        Check.due("23 fourteen members", thick.count(2), 14);
    }
}
