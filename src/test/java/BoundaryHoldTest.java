/**
 * The boundary cases that the document names of what a NET does: STRESSES, WAYS, what is BORNE, THE SHAPE, TIGHT and
 * STIFF (promises 8 to 11 and 14 to 19). A test for each such sentence, on either side of the boundary.
 */
public final class BoundaryHoldTest {
    private static final int LOW = Integer.MIN_VALUE;
    private static final int HIGH = Integer.MAX_VALUE;
    private static final int[] NO_AXES = {-1, 2, LOW, HIGH};

    private BoundaryHoldTest() {
    }

    public static void main(String[] args) {
        stressesFromNoneOn();
        stressesOfAlmostALine();
        stressesOfAllMembers();
        stressOfNoSuchNumber();
        stressOfNoSuchMember();
        stressIsOneAtItsOwnFreeMember();
        stressRefusedLeavesTheResult();
        ledByThoseAheadAlone();
        waysFromNoneToSixteen();
        wayOfNoSuchNumber();
        wayOfNoSuchJointOrAxis();
        wayOfAFixedJoint();
        wayIsOneAtItsOwnFreeMove();
        wayRefusedLeavesTheResult();
        borneNotOnceOrMany();
        borneIsExact();
        bearsNotIfNotBorne();
        bearsOfNoSuchMember();
        bearsIsNoughtAtFreeMembers();
        shapedIfJustOne();
        shapedByTheLeastPull();
        shapedWithoutFreeJoints();
        shapeWhereFreeOnesWereDoesNotMatter();
        shapeOfFixedJointsStays();
        shapeOfNoSuchJointOrAxis();
        shapeWhereThereIsNone();
        tightIsStrict();
        tightOfCablesAndStruts();
        tightAfterALargerNet();
        tightOfMoreStressesThanItsCablesNeed();
        tightWithoutStresses();
        tightWithoutCablesAndStruts();
        tightOfThreeOrFourStresses();
        stiffOnlyIfAStress();
        stiffIsStrict();
        stiffOfThreeWaysIsStrict();
        stiffAlongX();
        stiffWithoutWays();
        stiffOfThreeOrFourWays();
        stiffWhateverTheLoads();
        largestNets();
        Check.end();
    }

    // A free joint at 0, 0 with members to fixed joints at the told places, all of one sort.
    private static TensionNet rays(int sort, int... places) {
        int rays = places.length / 2;
        long[] numbers = new long[1 + 3 * (rays + 1) + 1 + 3 * rays];
        numbers[0] = rays + 1;
        numbers[4 + 3 * rays] = rays;
        for (int i = 0; i < rays; i++) {
            numbers[4 + 3 * i] = places[2 * i];
            numbers[5 + 3 * i] = places[2 * i + 1];
            numbers[6 + 3 * i] = 1;
            numbers[6 + 3 * rays + 3 * i] = i + 1;
            numbers[7 + 3 * rays + 3 * i] = sort;
        }
        return Check.bench(numbers);
    }

    // Members all between one pair of joints at 0, 0 and 3, 4.
    private static TensionNet bundle(int members, int fixedOne, int fixedTwo) {
        long[] numbers = new long[8 + 3 * members];
        long[] joints = {2, 0, 0, fixedOne, 3, 4, fixedTwo, members};
        System.arraycopy(joints, 0, numbers, 0, 8);
        for (int m = 0; m < members; m++) {
            numbers[9 + 3 * m] = 1;
        }
        return Check.bench(numbers);
    }

    // Free joints in a line between fixed ends, each bound to the next by a cable.
    private static TensionNet string(int free) {
        long[] numbers = new long[1 + 3 * (free + 2) + 1 + 3 * (free + 1)];
        numbers[0] = free + 2;
        for (int j = 0; j < free + 2; j++) {
            numbers[1 + 3 * j] = 2 * j;
            numbers[3 + 3 * j] = j == 0 || j == free + 1 ? 1 : 0;
        }
        int at = 1 + 3 * (free + 2);
        numbers[at] = free + 1;
        for (int m = 0; m <= free; m++) {
            numbers[at + 1 + 3 * m] = m;
            numbers[at + 2 + 3 * m] = m + 1;
            numbers[at + 3 + 3 * m] = 1;
        }
        return Check.bench(numbers);
    }

    private static void pullAll(TensionNet x, int... pulls) {
        for (int m = 0; m < pulls.length; m++) {
            Check.due("pull", x.pull(m, pulls[m]), 0);
        }
    }

    // "STRESSES is the number of them that are told freely": none, one and more
    private static void stressesFromNoneOn() {
        Check.due("8 no member", new TensionNet().stresses(), 0);
        Check.due("8 one", rays(0, 1, 0).stresses(), 0);
        Check.due("8 two", rays(0, 1, 0, 0, 1).stresses(), 0);
        Check.due("8 three", rays(0, 1, 0, 0, 1, 1, 1).stresses(), 1);
        Check.due("8 four", rays(0, 1, 0, 0, 1, 1, 1, -1, 1).stresses(), 2);
        Check.due("8 five", rays(0, 1, 0, 0, 1, 1, 1, -1, 1, 5, 7).stresses(), 3);
        Check.due("8 six", rays(0, 1, 0, 0, 1, 1, 1, -1, 1, 5, 7, 7, 5).stresses(), 4);
    }

    private static void stressesOfAlmostALine() {
        Check.due("8 a line", rays(0, 20, 20, -19, -19).stresses(), 1);
        Check.due("8 almost a line", rays(0, 20, 20, -19, -20).stresses(), 0);
        Check.due("8 a line on one side", rays(0, 20, 18, 10, 9).stresses(), 1);
        Check.due("8 almost a line on one side", rays(0, 20, 19, 19, 18).stresses(), 0);
        TensionNet x = rays(0, 20, 18, 10, 9);
        Check.result("8 its stress", x, x.stress(0, 0), -1, 2);
    }

    // "There are as many FREE MEMBERS as STRESSES": all members, all but one
    private static void stressesOfAllMembers() {
        for (int members = 1; members <= 14; members += 13) {
            Check.due("8 between fixed joints", bundle(members, 1, 1).stresses(), members);
            Check.due("8 with a free joint", bundle(members, 1, 0).stresses(), members - 1);
            Check.due("8 between free joints", bundle(members, 0, 0).stresses(), members - 1);
        }
        TensionNet x = bundle(14, 1, 1);
        Check.result("8 the last of fourteen", x, x.stress(13, 13), 1, 1);
        Check.result("8 the last at the first", x, x.stress(13, 0), 0, 1);
        Check.due("8 no fifteenth", x.stress(14, 13), false);
        TensionNet y = bundle(14, 1, 0);
        Check.result("8 the last of thirteen", y, y.stress(12, 0), -1, 1);
        Check.due("8 no fourteenth", y.stress(13, 0), false);
    }

    // "(from 0 on) .. false if there is none such": no such STRESS
    private static void stressOfNoSuchNumber() {
        TensionNet x = rays(0, 1, 0, -2, 0, 3, 0);
        int[] none = {-1, 2, 3, LOW, HIGH};
        for (int i : none) {
            Check.due("9 stress " + i, x.stress(i, 0), false);
        }
        Check.result("9 the first", x, x.stress(0, 0), 2, 1);
        Check.result("9 the last", x, x.stress(1, 0), -3, 1);
        Check.due("9 none at all", Nets.roof().stress(0, 0), false);
        Check.due("9 nor below", Nets.roof().stress(-1, 0), false);
    }

    // "false if there is none such": no such MEMBER
    private static void stressOfNoSuchMember() {
        TensionNet x = rays(0, 1, 0, -2, 0, 3, 0);
        int[] none = {-1, 3, 14, LOW, HIGH};
        for (int member : none) {
            Check.due("9 member " + member, x.stress(0, member), false);
            Check.due("9 member " + member + " of none", x.stress(2, member), false);
        }
        Check.result("9 the first member", x, x.stress(1, 0), -3, 1);
        Check.result("9 the last member", x, x.stress(1, 2), 1, 1);
    }

    // "The i-th STRESS has 1 at the i-th FREE MEMBER and 0 at the others."
    private static void stressIsOneAtItsOwnFreeMember() {
        // Members 0 and 2 are led.
        TensionNet x = rays(0, 2, 0, -1, 0, 0, 5, 3, 1);
        Check.due("9 two", x.stresses(), 2);
        int[][] tops = {{1, 1, 0, 0}, {-3, 0, -1, 1}};
        int[][] bottoms = {{2, 1, 1, 1}, {2, 1, 5, 1}};
        for (int i = 0; i < 2; i++) {
            for (int m = 0; m < 4; m++) {
                Check.result("9 stress " + i + " at " + m, x, x.stress(i, m), tops[i][m], bottoms[i][m]);
            }
        }
    }

    // "changes nothing (the RESULT stays)"
    private static void stressRefusedLeavesTheResult() {
        TensionNet x = rays(0, 2, 0, -1, 0, 0, 5, 3, 1);
        x.stress(1, 0);
        String before = Check.state(x);
        Check.refused("9 no stress", x, before, x.stress(2, 0));
        Check.refused("9 no member", x, before, x.stress(0, 4));
        Check.result("9 the result", x, -3, 2);
    }

    // "A MEMBER is LED, if a net of all MEMBERS ahead of it and it has no more STRESSES": the order of members tells
    private static void ledByThoseAheadAlone() {
        TensionNet x = rays(0, 1, 0, 0, 1, -1, 0);
        TensionNet y = rays(0, 1, 0, -1, 0, 0, 1);
        TensionNet z = rays(0, 0, 1, 1, 0, -1, 0);
        int[][] led = {{1, 1, 0}, {1, 0, 1}, {1, 1, 0}};
        TensionNet[] nets = {x, y, z};
        for (int n = 0; n < 3; n++) {
            for (int m = 0; m < 3; m++) {
                Check.due("22 led " + m + " of net " + n, nets[n].told(m, 14), led[n][m]);
            }
        }
    }

    // "WAYS is the number of moves that can be chosen at will"
    private static void waysFromNoneToSixteen() {
        Check.due("10 no free joint", Check.bench(1, 0, 0, 1, 0).ways(), 0);
        Check.due("10 held by two", rays(0, 1, 0, 0, 1).ways(), 0);
        Check.due("10 held by almost a line", rays(0, 20, 19, 19, 18).ways(), 0);
        Check.due("10 held by a line", rays(0, 20, 18, 10, 9).ways(), 1);
        Check.due("10 held by one", rays(0, 1, 0).ways(), 1);
        Check.due("10 held by none", new TensionNet().ways(), 2);
        Check.due("10 eight free ones",
                Check.bench(8, 0, 0, 0, 0, 0, 0, 0, 0, 0, 0, 0, 0, 0, 0, 0, 0, 0, 0, 0, 0, 0, 0, 0, 0, 0).ways(), 16);
        TensionNet x = Check.bench(8, 0, 0, 0, 0, 0, 0, 0, 0, 0, 0, 0, 0, 0, 0, 0, 0, 0, 0, 0, 0, 0, 0, 0, 0, 0);
        Check.result("10 the last of sixteen", x, x.way(15, 7, 1), 1, 1);
        Check.result("10 the last but one", x, x.way(14, 7, 1), 0, 1);
        Check.due("10 no seventeenth", x.way(16, 7, 1), false);
    }

    // "in the i-th WAY: true; false if there is none such": no such WAY
    private static void wayOfNoSuchNumber() {
        TensionNet x = new TensionNet();
        int[] none = {-1, 2, 3, LOW, HIGH};
        for (int i : none) {
            Check.due("11 way " + i, x.way(i, 0, 0), false);
        }
        Check.result("11 the first way", x, x.way(0, 0, 0), 1, 1);
        Check.result("11 the last way", x, x.way(1, 0, 0), 0, 1);
        Check.due("11 none at all", Nets.roof().way(0, 2, 0), false);
        Check.due("11 nor below", Nets.roof().way(-1, 2, 0), false);
    }

    // "false if there is none such": no such JOINT or axis
    private static void wayOfNoSuchJointOrAxis() {
        TensionNet x = Nets.line(1, 1);
        int[] none = {-1, 3, 8, LOW, HIGH};
        for (int joint : none) {
            Check.due("11 joint " + joint, x.way(0, joint, 1), false);
        }
        for (int axis : NO_AXES) {
            Check.due("11 axis " + axis, x.way(0, 2, axis), false);
            Check.due("11 axis " + axis + " of a fixed one", x.way(0, 0, axis), false);
        }
        Check.result("11 the last joint along", x, x.way(0, 2, 0), 0, 1);
        Check.result("11 the last joint across", x, x.way(0, 2, 1), 1, 1);
    }

    // "0 for FIXED ones"
    private static void wayOfAFixedJoint() {
        TensionNet x = Nets.line(1, 1);
        x.way(0, 2, 1);
        for (int joint = 0; joint < 2; joint++) {
            for (int axis = 0; axis < 2; axis++) {
                Check.result("11 a fixed joint", x, x.way(0, joint, axis), 0, 1);
                Check.result("11 the free one", x, x.way(0, 2, 1), 1, 1);
            }
        }
        Check.due("11 a fixed joint without ways", Nets.roof().way(0, 0, 0), false);
    }

    // "moves are in an order: JOINT by JOINT, x ahead of y; the i-th WAY has 1 at the i-th FREE move"
    private static void wayIsOneAtItsOwnFreeMove() {
        // Joint 1 is fixed. Its member to 0 goes along 2, 1 and makes the first x led; 2 and 3 are bound along y.
        TensionNet x = Check.bench(4, 2, 1, 0, 0, 0, 1, 5, 5, 0, 5, 8, 0, 2, 0, 1, 0, 2, 3, 0);
        int[] freeJoint = {0, 2, 3, 3};
        int[] freeAxis = {1, 0, 0, 1};
        Check.due("11 four", x.ways(), 4);
        for (int i = 0; i < 4; i++) {
            for (int k = 0; k < 4; k++) {
                Check.result("11 way " + i + " at the free move " + k, x, x.way(i, freeJoint[k], freeAxis[k]),
                        i == k ? 1 : 0, 1);
            }
        }
        Check.result("11 led by the first", x, x.way(0, 0, 0), -1, 2);
        Check.result("11 not led by the second", x, x.way(1, 0, 0), 0, 1);
        Check.result("11 led by the last", x, x.way(3, 2, 1), 1, 1);
        Check.result("11 not led by the third", x, x.way(2, 2, 1), 0, 1);
    }

    // "changes nothing (the RESULT stays)"
    private static void wayRefusedLeavesTheResult() {
        TensionNet x = Check.bench(2, 2, 1, 0, 0, 0, 1, 1, 0, 1, 0);
        x.way(0, 0, 0);
        String before = Check.state(x);
        Check.refused("11 no way", x, before, x.way(1, 0, 1));
        Check.refused("11 no joint", x, before, x.way(0, 2, 1));
        Check.refused("11 no axis", x, before, x.way(0, 0, 2));
        Check.result("11 the result", x, -1, 2);
    }

    // "0 not, 1 by just one row of PULLS, 2 by many"
    private static void borneNotOnceOrMany() {
        TensionNet one = rays(0, 1, 0);
        Check.due("14 no load on one member", one.borne(), 1);
        one.load(0, 5, 0);
        Check.due("14 along one member", one.borne(), 1);
        one.load(0, 5, 1);
        Check.due("14 across one member", one.borne(), 0);
        TensionNet two = rays(0, 1, 0, 0, 1);
        two.load(0, 5, 1);
        Check.due("14 by two members", two.borne(), 1);
        TensionNet three = rays(0, 1, 0, 0, 1, 1, 1);
        three.load(0, 5, 1);
        Check.due("14 by three members", three.borne(), 2);
        TensionNet line = rays(0, 1, 0, -1, 0);
        line.load(0, 5, 0);
        Check.due("14 along a line", line.borne(), 2);
        line.load(0, 5, 1);
        Check.due("14 across a line", line.borne(), 0);
        TensionNet none = new TensionNet();
        Check.due("14 no member, no load", none.borne(), 1);
        none.load(0, 0, 1);
        Check.due("14 no member, a load", none.borne(), 0);
        Check.due("14 between fixed joints", bundle(1, 1, 1).borne(), 2);
    }

    private static void borneIsExact() {
        TensionNet x = rays(0, 20, 19);
        x.load(0, 1000, 950);
        Check.due("14 along it", x.borne(), 1);
        Check.result("14 its pull", x, x.bears(0), -50, 1);
        x.load(0, 1000, 951);
        Check.due("14 almost along it", x.borne(), 0);
        x.load(0, 999, 950);
        Check.due("14 almost along it", x.borne(), 0);
        x.load(0, -20, -19);
        Check.due("14 along it the other way", x.borne(), 1);
        x.load(0, 0, 0);
        Check.due("14 nothing", x.borne(), 1);
    }

    // "false if they are not"
    private static void bearsNotIfNotBorne() {
        TensionNet x = rays(0, 2, 0);
        x.load(0, 5, 0);
        Check.result("15 borne", x, x.bears(0), -5, 2);
        x.load(0, 5, 1);
        String before = Check.state(x);
        Check.refused("15 not borne", x, before, x.bears(0));
        Check.result("15 the result stays", x, -5, 2);
        x.load(0, 3, 0);
        Check.result("15 borne again", x, x.bears(0), -3, 2);
    }

    // ".. or there is no such MEMBER"
    private static void bearsOfNoSuchMember() {
        TensionNet x = rays(0, 2, 0, 0, 3);
        x.load(0, 5, 7);
        x.bears(0);
        String before = Check.state(x);
        int[] none = {-1, 2, 14, LOW, HIGH};
        for (int member : none) {
            Check.refused("15 member " + member, x, before, x.bears(member));
        }
        Check.result("15 the first member", x, x.bears(0), -5, 2);
        Check.result("15 the last member", x, x.bears(1), -7, 3);
        Check.due("15 no member at all", new TensionNet().bears(0), false);
    }

    // "those told are 0 at FREE MEMBERS"
    private static void bearsIsNoughtAtFreeMembers() {
        TensionNet x = rays(0, 2, 0, -1, 0, 0, 5, 3, 1);
        x.load(0, 6, 10);
        int[] due = {-3, 0, -2, 0};
        for (int m = 0; m < 4; m++) {
            Check.result("15 member " + m, x, x.bears(m), due[m], 1);
        }
        TensionNet fixed = bundle(2, 1, 1);
        fixed.load(0, 5, 5);
        Check.result("15 between fixed joints", fixed, fixed.bears(1), 0, 1);
    }

    // "if there is just one such": not if none is, nor if many are
    private static void shapedIfJustOne() {
        TensionNet x = rays(1, 4, 0);
        Check.due("16 every place is even", x.shaped(), false);
        x.load(0, 1, 0);
        Check.due("16 no place is even", x.shaped(), false);
        x.pull(0, 2);
        Check.due("16 one place is even", x.shaped(), true);
        Check.result("16 that one", x, x.shape(0, 0), 9, 2);
        TensionNet two = Check.bench(2, 0, 0, 0, 3, 0, 0, 1, 0, 1, 1);
        two.pull(0, 7);
        Check.due("16 two that hang together, held by none", two.shaped(), false);
        TensionNet apart = Check.bench(3, 0, 0, 1, 3, 0, 0, 5, 0, 0, 1, 0, 1, 1);
        apart.pull(0, 7);
        Check.due("16 one held, one not", apart.shaped(), false);
    }

    private static void shapedByTheLeastPull() {
        TensionNet x = rays(1, 4, 0, 0, 4, -4, 0);
        pullAll(x, 1000, -999, -1);
        Check.due("16 pulls that come to 0", x.shaped(), false);
        x.pull(1, -1000);
        Check.due("16 pulls that come to -1", x.shaped(), true);
        Check.result("16 x", x, x.shape(0, 0), -4004, 1);
        Check.result("16 y", x, x.shape(0, 1), 4000, 1);
        x.pull(1, -998);
        Check.due("16 pulls that come to 1", x.shaped(), true);
        Check.result("16 x the other way", x, x.shape(0, 0), 4004, 1);
        // Two free joints: p (q + r) + q r is 0 for 2, 2 and -1.
        TensionNet two = Check.bench(4, 0, 0, 1, 1, 0, 0, 2, 0, 0, 3, 0, 1, 3, 0, 1, 1, 1, 2, 1, 2, 3, 1);
        pullAll(two, 2, -1, 2);
        Check.due("16 two joints, pulls that cancel", two.shaped(), false);
        pullAll(two, 2, -1, 3);
        Check.due("16 two joints, pulls that do not", two.shaped(), true);
        Check.result("16 its first", two, two.shape(1, 0), -9, 1);
    }

    private static void shapedWithoutFreeJoints() {
        TensionNet x = Check.bench(2, 3, -4, 1, 5, 6, 1, 0);
        Check.due("16 all fixed", x.shaped(), true);
        Check.result("16 x", x, x.shape(0, 0), 3, 1);
        Check.result("16 y", x, x.shape(1, 1), 6, 1);
        Check.due("16 one of them free", Check.bench(2, 3, -4, 1, 5, 6, 0, 0).shaped(), false);
    }

    // "where FREE ones were does not matter"
    private static void shapeWhereFreeOnesWereDoesNotMatter() {
        int[][] places = {{0, 0}, {20, 20}, {-20, 19}, {2, 5}};
        for (int[] place : places) {
            TensionNet x = Check.bench(3, 1, 0, 1, 8, 3, 1, place[0], place[1], 0, 2, 0, 2, 1, 1, 2, 1);
            pullAll(x, 1, 2);
            x.load(2, -4, 6);
            Check.result("17 x", x, x.shape(2, 0), 13, 3);
            Check.result("17 y", x, x.shape(2, 1), 4, 1);
        }
    }

    // "(places of FIXED ones stay ..)"
    private static void shapeOfFixedJointsStays() {
        TensionNet x = Check.bench(3, 20, -20, 1, -20, 20, 1, 0, 5, 0, 2, 0, 2, 1, 1, 2, 1);
        pullAll(x, 1000, 1000);
        x.load(0, 1000, 1000);
        Check.result("17 x of the first", x, x.shape(0, 0), 20, 1);
        Check.result("17 y of the first", x, x.shape(0, 1), -20, 1);
        Check.result("17 x of the second", x, x.shape(1, 0), -20, 1);
        Check.result("17 y of the second", x, x.shape(1, 1), 20, 1);
        Check.result("17 the free one has moved", x, x.shape(2, 1), 0, 1);
    }

    // "false if there is none such": no such JOINT or axis
    private static void shapeOfNoSuchJointOrAxis() {
        TensionNet x = rays(1, 4, 6);
        x.pull(0, 3);
        x.load(0, 1, 1);
        x.shape(0, 0);
        String before = Check.state(x);
        int[] none = {-1, 2, 8, LOW, HIGH};
        for (int joint : none) {
            Check.refused("17 joint " + joint, x, before, x.shape(joint, 0));
        }
        for (int axis : NO_AXES) {
            Check.refused("17 axis " + axis, x, before, x.shape(0, axis));
            Check.refused("17 axis " + axis + " of a fixed one", x, before, x.shape(1, axis));
        }
        Check.result("17 the first joint", x, x.shape(0, 0), 13, 3);
        Check.result("17 the last joint", x, x.shape(1, 1), 6, 1);
    }

    // "false if there is none such": no SHAPE, of fixed joints neither
    private static void shapeWhereThereIsNone() {
        TensionNet x = rays(1, 4, 6);
        x.load(0, 1, 1);
        x.left(0, 0);
        String before = Check.state(x);
        for (int joint = 0; joint < 2; joint++) {
            Check.refused("17 joint " + joint, x, before, x.shape(joint, 0));
        }
        x.pull(0, -1);
        Check.result("17 with a push", x, x.shape(0, 0), 3, 1);
        Check.result("17 of the fixed one", x, x.shape(1, 0), 4, 1);
    }

    // "above 0 in each CABLE and below 0 in each STRUT": 0 is neither
    private static void tightIsStrict() {
        Check.due("18 cables on two sides", rays(1, 1, 0, -1, 0).tight(), 1);
        Check.due("18 struts on two sides", rays(2, 1, 0, -1, 0).tight(), 1);
        Check.due("18 cables on one side", rays(1, 1, 0, 2, 0).tight(), 0);
        Check.due("18 struts on one side", rays(2, 1, 0, 2, 0).tight(), 0);
        Check.due("18 a cable across that can only have 0", rays(1, 1, 0, -1, 0, 0, 1).tight(), 0);
        Check.due("18 a strut across that can only have 0", rays(2, 1, 0, -1, 0, 0, 1).tight(), 0);
        Check.due("18 cables across on both sides", rays(1, 1, 0, -1, 0, 0, 1, 0, -1).tight(), 1);
        // In a half plane, its edge included, those off the edge can only have 0.
        Check.due("18 cables in a half plane", rays(1, 20, 0, -20, 0, 3, 1).tight(), 0);
        Check.due("18 cables in just less than it", rays(1, 20, 1, -20, 0, 3, 1).tight(), 0);
        Check.due("18 cables in just more than it", rays(1, 20, -1, -20, 0, 3, 1).tight(), 1);
        Check.due("18 four cables in a half plane", rays(1, 20, 0, -20, 0, 3, 1, -3, 1).tight(), 0);
        Check.due("18 four cables in just more than it", rays(1, 20, -1, -20, 0, 3, 1, -3, 1).tight(), 1);
        Check.due("18 five cables in a half plane", rays(1, 20, 0, -20, 0, 3, 1, -3, 1, 0, 20).tight(), 0);
        Check.due("18 five cables in just more", rays(1, 20, -1, -20, 0, 3, 1, -3, 1, 0, 20).tight(), 1);
        Check.due("18 five struts in a half plane", rays(2, 20, 0, -20, 0, 3, 1, -3, 1, 0, 20).tight(), 0);
        Check.due("18 five struts in just more", rays(2, 20, -1, -20, 0, 3, 1, -3, 1, 0, 20).tight(), 1);
    }

    // "above 0 in each CABLE and below 0 in each STRUT": of two in a line with a free joint between, or at one side
    private static void tightOfCablesAndStruts() {
        for (int one = 1; one <= 2; one++) {
            for (int two = 1; two <= 2; two++) {
                Check.due("18 sorts " + one + ", " + two + " on two sides", Nets.line(one, two).tight(),
                        one == two ? 1 : 0);
                Check.due("18 sorts " + one + ", " + two + " on one side",
                        Check.bench(3, 0, 0, 0, 1, 0, 1, 2, 0, 1, 2, 0, 1, one, 0, 2, two).tight(), one == two ? 0 : 1);
            }
        }
    }

    // "A NET of the SLOT's ROW in place of the one there is": no member of a larger one is asked any more
    private static void tightAfterALargerNet() {
        for (int sort = 0; sort < 3; sort++) {
            TensionNet x = Nets.line(1, 1);
            long[] larger = {4, 0, 0, 1, 1, 0, 0, 2, 0, 0, 3, 0, 1, 3, 0, 1, 1, 1, 2, 1, 2, 3, sort};
            Check.due("18 a larger net", Check.build(x, 0, larger), 3);
            Check.due("18 with sort " + sort + " at its end", x.tight(), sort == 2 ? 0 : 1);
            Check.due("18 the smaller net", x.net(7), 2);
            Check.due("18 its cables can be tight", x.tight(), 1);
            Check.due("18 the larger net again", x.net(0), 3);
            Check.due("18 still with sort " + sort, x.tight(), sort == 2 ? 0 : 1);
        }
    }

    private static void tightOfMoreStressesThanItsCablesNeed() {
        // A cross of four cables has two stresses; a bar between two fixed joints adds one that no cable needs.
        long[] cross = {5, 0, 0, 0, 20, 0, 1, -20, 0, 1, 0, 20, 1, 0, -20, 1,
            5, 0, 1, 1, 0, 2, 1, 0, 3, 1, 0, 4, 1, 1, 2, 0};
        Check.due("18 a cross and a bar", Check.bench(cross).tight(), 1);
        cross[14] = 19;
        Check.due("18 a cross on one side and a bar", Check.bench(cross).tight(), 0);
        cross[14] = -20;
        cross[25] = 2;
        Check.due("18 a cross with a strut and a bar", Check.bench(cross).tight(), 0);
        cross[28] = 2;
        Check.due("18 a cross with two struts and a bar", Check.bench(cross).tight(), 1);
    }

    private static void tightWithoutStresses() {
        Check.due("18 a bar alone", rays(0, 1, 0).tight(), 1);
        Check.due("18 a cable alone", rays(1, 1, 0).tight(), 0);
        Check.due("18 a strut alone", rays(2, 1, 0).tight(), 0);
        Check.due("18 nothing at all", new TensionNet().tight(), 1);
    }

    private static void tightWithoutCablesAndStruts() {
        Check.due("18 one bar's stress", bundle(1, 1, 1).tight(), 1);
        Check.due("18 three bars' stresses", bundle(3, 1, 1).tight(), 1);
        Check.due("18 four bars' stresses", bundle(4, 1, 1).tight(), -7);
    }

    // "-7 (not told), if there are more than three STRESSES"
    private static void tightOfThreeOrFourStresses() {
        for (int sort = 0; sort < 3; sort++) {
            int onOneSide = sort == 0 ? 1 : 0;
            Check.due("18 three, both sides", rays(sort, 1, 0, 2, 0, 3, 0, -1, 0).tight(), 1);
            Check.due("18 three, one side", rays(sort, 1, 0, 2, 0, 3, 0, 4, 0).tight(), onOneSide);
            Check.due("18 four, both sides", rays(sort, 1, 0, 2, 0, 3, 0, 4, 0, -1, 0).tight(), -7);
            Check.due("18 four, one side", rays(sort, 1, 0, 2, 0, 3, 0, 4, 0, 5, 0).tight(), -7);
        }
        Check.due("18 thirteen", bundle(14, 1, 0).tight(), -7);
    }

    // "the TOLD PULLS are a STRESS"
    private static void stiffOnlyIfAStress() {
        TensionNet x = string(1);
        pullAll(x, 1000, 1000);
        Check.due("19 a stress", x.stiff(), 1);
        pullAll(x, 1000, 999);
        Check.due("19 almost a stress", x.stiff(), 0);
        x.load(1, 2, 0);
        Check.due("19 even with the load", x.even(), true);
        Check.due("19 but not a stress", x.stiff(), 0);
        TensionNet held = rays(0, 1, 0, 0, 1);
        Check.due("19 no way, no pull", held.stiff(), 1);
        held.pull(0, 1);
        Check.due("19 no way, no stress", held.stiff(), 0);
    }

    // "is above 0": 0 is not
    private static void stiffIsStrict() {
        TensionNet x = string(1);
        Check.due("19 no pull", x.stiff(), 0);
        pullAll(x, 1, 1);
        Check.due("19 the least pull", x.stiff(), 1);
        pullAll(x, -1, -1);
        Check.due("19 the least push", x.stiff(), 0);
        // Two ways: free joints at 2 and 4 in a line between fixed ones at 0 and 6. Of q between them, and r and s to
        // the far ends, the form's determinant is three times q q + 2 q (r + s) + 3 r s.
        TensionNet two = Check.bench(4, 0, 0, 1, 6, 0, 1, 2, 0, 0, 4, 0, 0,
                5, 0, 2, 0, 2, 3, 0, 3, 1, 0, 0, 3, 0, 2, 1, 0);
        int[][] rows = {{-1000, 1000, 1000, 0}, {-919, 937, 902, 1}, {-917, 935, 900, 0}, {-1, 1, 1, 0}, {1, 0, 0, 1}};
        for (int[] row : rows) {
            int q = row[0];
            pullAll(two, q + 2 * row[2], q, q + 2 * row[1], row[1], row[2]);
            Check.due("19 two ways with " + q, two.stiff(), row[3]);
        }
    }

    // Free joints at 1, 2 and 3 in a line between fixed ones at 0 and 4, all bound to one another but the fixed ones.
    private static void stiffOfThreeWaysIsStrict() {
        TensionNet x = Check.bench(5, 0, 0, 1, 1, 0, 0, 2, 0, 0, 3, 0, 0, 4, 0, 1,
                9, 0, 1, 0, 1, 2, 0, 2, 3, 0, 3, 4, 0, 0, 2, 0, 2, 4, 0, 1, 3, 0, 0, 3, 0, 1, 4, 0);
        Check.due("19 three ways", x.ways(), 3);
        int[][] rows = {
            {9, 5, -1, 3, 1, 4, -4, 4, 4},
            // The determinant is 0, then just below it; then minors are below 0, or 0, though it is above.
            {8, -8, 6, 22, 10, 3, 2, 4, 4}, {15, -5, -5, 9, 7, 7, -2, 6, 8}, {-41, -9, -7, 12, 1, 0, -4, 9, -8},
            {1, 6, -8, -10, -13, -6, 2, -2, -3}, {12, 0, 0, -24, 0, 0, -6, -4, 8}, {5, -6, -8, -15, 0, 1, -8, 3, 9}};
        for (int i = 0; i < rows.length; i++) {
            pullAll(x, rows[i]);
            Check.due("19 row " + i + " is a stress", x.even(), true);
            Check.due("19 row " + i, x.stiff(), i == 0 ? 1 : 0);
        }
    }

    private static void stiffAlongX() {
        TensionNet x = rays(1, 0, 1, 0, -1);
        Check.due("19 no pull", x.stiff(), 0);
        pullAll(x, 1, 1);
        Check.due("19 pulls", x.stiff(), 1);
        pullAll(x, -1, -1);
        Check.due("19 pushes", x.stiff(), 0);
    }

    private static void stiffWithoutWays() {
        Check.due("19 all fixed", Check.bench(1, 0, 0, 1, 0).stiff(), 1);
        TensionNet x = rays(0, 1, 0, 0, 1, -1, 0, 0, -1);
        Check.due("19 no way", x.stiff(), 1);
        pullAll(x, -5, -5, -5, -5);
        Check.due("19 no way, pushes", x.stiff(), 1);
        Check.due("19 ways and no member", new TensionNet().stiff(), 0);
    }

    // "-7 (not told), if the TOLD PULLS are a STRESS and there are more than three WAYS"
    private static void stiffOfThreeOrFourWays() {
        TensionNet three = string(3);
        TensionNet four = string(4);
        Check.due("19 three ways", three.ways(), 3);
        Check.due("19 four ways", four.ways(), 4);
        Check.due("19 three, no pull", three.stiff(), 0);
        Check.due("19 four, no pull", four.stiff(), -7);
        pullAll(three, 2, 2, 2, 2);
        pullAll(four, 2, 2, 2, 2, 2);
        Check.due("19 three, a stress", three.stiff(), 1);
        Check.due("19 four, a stress", four.stiff(), -7);
        pullAll(three, -2, -2, -2, -2);
        pullAll(four, -2, -2, -2, -2, -2);
        Check.due("19 three, a stress of pushes", three.stiff(), 0);
        Check.due("19 four, a stress of pushes", four.stiff(), -7);
        three.pull(3, -3);
        four.pull(4, -3);
        Check.due("19 three, no stress", three.stiff(), 0);
        Check.due("19 four, no stress", four.stiff(), 0);
        Check.due("19 four ways without members", Check.bench(2, 0, 0, 0, 0, 0, 0, 0).stiff(), -7);
        Check.due("19 two ways without members", Check.bench(2, 0, 0, 0, 0, 0, 1, 0).stiff(), 0);
    }

    // A STRESS is "EVEN without LOADS"
    private static void stiffWhateverTheLoads() {
        TensionNet x = string(1);
        pullAll(x, 2, 2);
        x.load(1, 1000, -1000);
        Check.due("19 not even", x.even(), false);
        Check.due("19 stiff", x.stiff(), 1);
        TensionNet four = string(4);
        four.load(1, 5, 5);
        Check.due("19 not told", four.stiff(), -7);
    }

    // The largest nets that sixty numbers hold, with the largest numbers, asked everything.
    private static void largestNets() {
        int[][] corners = {{20, 20}, {-20, -20}, {20, -19}, {-19, 20}, {-20, 1}, {1, -20}, {19, -1}, {-1, 19}};
        for (int joints = 5; joints <= 8; joints++) {
            for (int fixed = 0; fixed <= joints; fixed++) {
                int members = Math.min(14, (58 - 3 * joints) / 3);
                long[] numbers = new long[2 + 3 * joints + 3 * members];
                numbers[0] = joints;
                for (int j = 0; j < joints; j++) {
                    numbers[1 + 3 * j] = corners[j][0];
                    numbers[2 + 3 * j] = corners[j][1];
                    numbers[3 + 3 * j] = j < fixed ? 1 : 0;
                }
                int at = 1 + 3 * joints;
                numbers[at] = members;
                for (int m = 0; m < members; m++) {
                    numbers[at + 1 + 3 * m] = m % joints;
                    numbers[at + 2 + 3 * m] = (m + 1 + m / joints) % joints;
                    numbers[at + 3 + 3 * m] = m % 3;
                }
                judgeLargest(numbers, joints, members);
            }
        }
    }

    private static void judgeLargest(long[] numbers, int joints, int members) {
        TensionNet x = Check.bench(numbers);
        Model model = new Model();
        model.row(7, 3, numbers.length);
        for (int i = 0; i < numbers.length; i++) {
            model.write(7, i, numbers[i]);
        }
        Check.due("the largest net", model.net(7), members);
        for (int m = 0; m < members; m++) {
            int v = m % 2 == 0 ? 1000 - m : m - 1000;
            Check.due("its pull", x.pull(m, v), model.pull(m, v));
        }
        for (int j = 0; j < joints; j++) {
            Check.due("its load", x.load(j, 1000, j - 1000), model.load(j, 1000, j - 1000));
        }
        Check.due("its stresses", x.stresses(), model.stresses());
        Check.due("its ways", x.ways(), model.ways());
        Check.due("its even", x.even(), model.even());
        Check.due("its borne", x.borne(), model.borne());
        Check.due("its shaped", x.shaped(), model.shaped());
        Check.due("its tight", x.tight(), model.tight());
        Check.due("its stiff", x.stiff(), model.stiff());
        for (int i = 0; i <= 16; i++) {
            for (int k = 0; k <= 16; k++) {
                judgeResult(x, model, x.stress(i, k), model.stress(i, k));
                judgeResult(x, model, x.way(i, k / 2, k % 2), model.way(i, k / 2, k % 2));
                Check.due("its told", x.told(i, k), model.told(i, k));
            }
            judgeResult(x, model, x.bears(i), model.bears(i));
            judgeResult(x, model, x.left(i / 2, i % 2), model.left(i / 2, i % 2));
            judgeResult(x, model, x.shape(i / 2, i % 2), model.shape(i / 2, i % 2));
        }
    }

    private static void judgeResult(TensionNet x, Model model, boolean got, boolean want) {
        Check.due("the largest net tells", got, want);
        Check.due("its top", Check.top(x).equals(model.result.top), true);
        Check.due("its bottom", Check.bottom(x).equals(model.result.bottom), true);
    }
}
