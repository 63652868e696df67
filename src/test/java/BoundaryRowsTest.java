import java.util.Arrays;

/**
 * The boundary cases that the document names of an object, of SLOTS and ROWS, and of a NET that is taken from one
 * (promises 1 to 5): a test for each such sentence, on either side of the boundary.
 */
public final class BoundaryRowsTest {
    private static final int LOW = Integer.MIN_VALUE;
    private static final int HIGH = Integer.MAX_VALUE;
    private static final int[] NO_SLOTS = {-1, 8, LOW, HIGH};

    // Two joints and a member; of each number, the lowest and the highest that are as told.
    private static final long[] GOOD = {2, 1, 2, 0, 4, 5, 1, 1, 0, 1, 2};
    private static final long[] LOWEST = {1, -20, -20, 0, -20, -20, 0, 0, 0, 0, 0};
    private static final long[] HIGHEST = {8, 20, 20, 1, 20, 20, 1, 14, 1, 1, 2};

    private BoundaryRowsTest() {
    }

    public static void main(String[] args) {
        theLastOf512Calls();
        newHasOneFreeJointAtNought();
        newHasNoMembers();
        newHasEmptySlots();
        newHasNoughtAsResult();
        memoryIsTheBenchsOwn();
        rowOfNoSuchSlot();
        rowOfNoSuchWidth();
        rowOfTooManyNumbers();
        rowOfLessThanNoNumbers();
        rowHasSoManyNumbers();
        rowIsAllNought();
        rowTakesAnothersPlace();
        rowTellsTheFirstRefusal();
        rowRefusedLeavesTheRow();
        tearOfWhatHasNothing();
        tearOfNoSuchSlot();
        tearLeavesOthersAndTheNet();
        writeIntoNoSuchSlot();
        writeIntoNothing();
        writeOfNoSuchNumber();
        writeCutsToTheWidth();
        writeOfEightBytesIsWhole();
        writeTouchesOneNumberAlone();
        netOfNoSuchSlot();
        netOfNothing();
        netOfARowThatEnds();
        netOfNumbersAtTheirEnds();
        netOfNumbersBeyondTheirEnds();
        netReadsOneByOne();
        netOfEndsThatAreOneJoint();
        netOfEndsAtOnePlace();
        netOfFewestAndMostJoints();
        netOfFewestAndMostMembers();
        netOfEndsAmongItsJoints();
        netTakesAnothersPlace();
        netSetsLoadsAndPullsToNought();
        netRefusedLeavesAll();
        Check.end();
    }

    private static TensionNet written(int width, long... numbers) {
        TensionNet x = new TensionNet();
        write(x, 0, width, numbers.length, numbers);
        return x;
    }

    private static void write(TensionNet x, int slot, int width, int n, long... numbers) {
        Check.due("row", x.row(slot, width, n), 0);
        for (int i = 0; i < n && i < numbers.length; i++) {
            Check.due("write", x.write(slot, i, numbers[i]), 0);
        }
    }

    private static int answer(long... numbers) {
        return written(3, numbers).net(0);
    }

    // "An object is used for at most 512 calls after it has been made"
    private static void theLastOf512Calls() {
        TensionNet x = new TensionNet();
        long[] roof = {3, 0, 0, 1, 4, 0, 1, 2, 1, 0, 2, 0, 2, 0, 1, 2, 0};
        int calls = 0;
        x.row(0, 0, roof.length);
        calls++;
        for (int i = 0; i < roof.length; i++) {
            x.write(0, i, roof[i]);
            calls++;
        }
        x.net(0);
        x.load(2, 0, -10);
        calls += 2;
        for (; calls < 508; calls++) {
            Check.due("call " + calls, x.stiff(), 1);
        }
        Check.due("call 509", x.bears(0), true);
        Check.due("call 510", x.look(0), -1);
        Check.due("call 511", x.part(false, 0), 5);
        Check.due("call 512", x.part(true, 0), 1);
    }

    // "A NET of one FREE JOINT at 0, 0"
    private static void newHasOneFreeJointAtNought() {
        TensionNet x = new TensionNet();
        Check.due("1 joints", x.count(0), 1);
        Check.due("1 free ones", x.count(1), 1);
        for (int what = 0; what < 5; what++) {
            Check.due("1 joint 0 tells " + what, x.told(0, what), 0);
        }
        Check.due("1 it moves", x.ways(), 2);
        Check.due("1 joint 0", x.load(0, 0, 0), 0);
        Check.due("1 no joint 1", x.load(1, 0, 0), -2);
    }

    // "without MEMBERS"
    private static void newHasNoMembers() {
        TensionNet x = new TensionNet();
        Check.due("1 members", x.count(2), 0);
        Check.due("1 no member 0", x.pull(0, 0), -2);
        Check.due("1 none leads", x.told(0, 14), 0);
        Check.due("1 none is stressed", x.stress(0, 0), false);
        Check.due("1 none bears", x.bears(0), false);
    }

    // "SLOTS are empty"
    private static void newHasEmptySlots() {
        TensionNet x = new TensionNet();
        Check.due("1 slots with a row", x.count(3), 0);
        for (int slot = 0; slot < 8; slot++) {
            Check.due("1 nothing to write", x.write(slot, 0, 0), -5);
            Check.due("1 nothing to take", x.net(slot), -5);
            Check.due("1 nothing to tear", x.tear(slot), false);
        }
    }

    // "the RESULT is 0 / 1"
    private static void newHasNoughtAsResult() {
        TensionNet x = new TensionNet();
        Check.due("1 sign", x.look(0), 0);
        Check.due("1 parts of the top", x.look(1), 1);
        Check.due("1 parts of the bottom", x.look(2), 1);
        Check.due("1 top", x.part(false, 0), 0);
        Check.due("1 bottom", x.part(true, 0), 1);
    }

    // "All memory is the bench's own."
    private static void memoryIsTheBenchsOwn() {
        TensionNet x = Nets.roof();
        String before = Check.state(x);
        TensionNet y = Nets.line(1, 2);
        y.load(2, 7, 0);
        y.pull(0, 5);
        y.bears(0);
        y.tear(7);
        Check.due("another bench changes nothing", Check.state(x).equals(before), true);
        Check.due("nor its rows", x.net(7), 2);
        Check.due("nor what they hold", x.told(2, 1), 1);
        Check.due("nor has it them", y.net(7), -5);
    }

    // "-2: there is no such SLOT .."; "SLOTS 0 to 7"
    private static void rowOfNoSuchSlot() {
        TensionNet x = new TensionNet();
        for (int slot : NO_SLOTS) {
            Check.due("2 slot " + slot, x.row(slot, 0, 1), -2);
        }
        Check.due("2 none is made", x.count(3), 0);
        for (int slot = 0; slot < 8; slot++) {
            Check.due("2 slot " + slot, x.row(slot, 0, 1), 0);
            Check.due("2 one more is made", x.count(3), slot + 1);
        }
    }

    // "-2: there is no such .. WIDTH"; "WIDTH 0 to 3"
    private static void rowOfNoSuchWidth() {
        TensionNet x = new TensionNet();
        int[] none = {-1, 4, LOW, HIGH};
        for (int width : none) {
            Check.due("2 width " + width, x.row(0, width, 1), -2);
        }
        Check.due("2 none is made", x.count(3), 0);
        for (int width = 0; width < 4; width++) {
            Check.due("2 width " + width, x.row(width, width, 1), 0);
        }
    }

    // "-2: .. or n is above 60"
    private static void rowOfTooManyNumbers() {
        TensionNet x = new TensionNet();
        Check.due("2 n 61", x.row(0, 0, 61), -2);
        Check.due("2 n 62", x.row(0, 0, 62), -2);
        Check.due("2 n the highest", x.row(0, 0, HIGH), -2);
        Check.due("2 none is made", x.count(3), 0);
        for (int width = 0; width < 4; width++) {
            Check.due("2 n 60 of width " + width, x.row(width, width, 60), 0);
            Check.due("2 the 60th number", x.write(width, 59, 1), 0);
            Check.due("2 no 61st", x.write(width, 60, 1), -6);
        }
    }

    // "-3: n is below 0"
    private static void rowOfLessThanNoNumbers() {
        TensionNet x = new TensionNet();
        Check.due("2 n -1", x.row(0, 0, -1), -3);
        Check.due("2 n the lowest", x.row(0, 0, LOW), -3);
        Check.due("2 none is made", x.count(3), 0);
        Check.due("2 n 0", x.row(0, 0, 0), 0);
        Check.due("2 a row without numbers is one", x.count(3), 1);
        Check.due("2 it has no number 0", x.write(0, 0, 0), -6);
    }

    // "a ROW of n numbers"
    private static void rowHasSoManyNumbers() {
        TensionNet x = new TensionNet();
        int[] sizes = {1, 2, 59, 60};
        for (int n : sizes) {
            Check.due("2 n " + n, x.row(5, 1, n), 0);
            Check.due("2 the last of " + n, x.write(5, n - 1, 1), 0);
            Check.due("2 behind the last of " + n, x.write(5, n, 1), -6);
        }
    }

    // "all 0"
    private static void rowIsAllNought() {
        TensionNet x = new TensionNet();
        x.row(0, 3, 5);
        Check.due("2 the first is 0: no joint", x.net(0), -4);
        x.write(0, 0, 1);
        Check.due("2 the last is 0: no member", x.net(0), 0);
        Check.due("2 the others are 0", x.told(0, 0) == 0 && x.told(0, 1) == 0 && x.told(0, 2) == 0, true);
    }

    // "(in place of another one)": numbers, length and width are the new one's, what was is gone
    private static void rowTakesAnothersPlace() {
        TensionNet x = written(3, 1, 3, 4, 1, 0);
        Check.due("2 the first row", x.net(0), 0);
        Check.due("2 shorter in its place", x.row(0, 3, 2), 0);
        Check.due("2 still one row", x.count(3), 1);
        Check.due("2 shorter by then", x.write(0, 2, 1), -6);
        Check.due("2 longer in its place", x.row(0, 0, 5), 0);
        Check.due("2 the joints are gone", x.net(0), -4);
        Check.due("2 a joint", x.write(0, 0, 257), 0);
        Check.due("2 cut to the new width", x.net(0), 0);
        Check.due("2 x is gone", x.told(0, 0), 0);
        Check.due("2 y is gone", x.told(0, 1), 0);
        Check.due("2 fixed is gone", x.told(0, 2), 0);
        Check.due("2 torn", x.tear(0), true);
        Check.due("2 made anew", x.row(0, 3, 5), 0);
        Check.due("2 the joints are gone by tearing, too", x.net(0), -4);
        Check.due("2 wider", x.write(0, 0, 257), 0);
        Check.due("2 not cut any more", x.net(0), -4);
    }

    // "Each call that is refused gives the first of the refusals told of it"
    private static void rowTellsTheFirstRefusal() {
        TensionNet x = new TensionNet();
        Check.due("2 slot and n below", x.row(8, 0, -1), -2);
        Check.due("2 slot below and n below", x.row(-1, 0, -1), -2);
        Check.due("2 width and n below", x.row(0, 4, -1), -2);
        Check.due("2 width below and n below", x.row(0, -1, LOW), -2);
        Check.due("2 all at once", x.row(8, 4, -1), -2);
        Check.due("2 n below alone", x.row(7, 3, -1), -3);
    }

    // ".. and changes nothing"
    private static void rowRefusedLeavesTheRow() {
        TensionNet x = written(0, 1, 3, 4, 1, 0);
        x.load(0, 9, 9);
        x.left(0, 0);
        String before = Check.state(x);
        Check.refused("2 width", x, before, x.row(0, 4, 5), -2);
        Check.refused("2 n above", x, before, x.row(0, 3, 61), -2);
        Check.refused("2 n below", x, before, x.row(0, 3, -1), -3);
        Check.due("2 the length stays", x.write(0, 5, 0), -6);
        Check.due("2 the width stays", x.write(0, 1, 256 + 7), 0);
        Check.due("2 the numbers stay", x.net(0), 0);
        Check.due("2 x", x.told(0, 0), 7);
        Check.due("2 y", x.told(0, 1), 4);
        Check.due("2 fixed", x.told(0, 2), 1);
    }

    // "The SLOT has nothing: true; false, if it had nothing"
    private static void tearOfWhatHasNothing() {
        TensionNet x = new TensionNet();
        for (int slot = 0; slot < 8; slot++) {
            Check.due("3 nothing yet", x.tear(slot), false);
            x.row(slot, 0, slot == 3 ? 0 : 2);
            Check.due("3 a row, of no number too", x.tear(slot), true);
            Check.due("3 nothing to write", x.write(slot, 0, 0), -5);
            Check.due("3 nothing to take", x.net(slot), -5);
            Check.due("3 nothing any more", x.tear(slot), false);
            Check.due("3 no row is left", x.count(3), 0);
        }
    }

    // ".. or there is none such"
    private static void tearOfNoSuchSlot() {
        TensionNet x = new TensionNet();
        for (int slot = 0; slot < 8; slot++) {
            x.row(slot, 0, 1);
        }
        for (int slot : NO_SLOTS) {
            Check.due("3 slot " + slot, x.tear(slot), false);
        }
        Check.due("3 all stay", x.count(3), 8);
        Check.due("3 the first", x.tear(0), true);
        Check.due("3 the last", x.tear(7), true);
        Check.due("3 six stay", x.count(3), 6);
    }

    private static void tearLeavesOthersAndTheNet() {
        TensionNet x = Nets.roof();
        x.row(6, 0, 1);
        x.load(2, 3, 4);
        x.bears(0);
        String before = Check.state(x);
        x.row(5, 0, 1);
        Check.due("3 tear", x.tear(5), true);
        Check.due("3 nothing else changes", Check.state(x).equals(before), true);
        Check.due("3 tear the net's row", x.tear(7), true);
        Check.due("3 the net stays", x.count(2), 2);
        Check.due("3 the other row stays", x.write(6, 0, 1), 0);
    }

    // "-2: there is no such SLOT", the first of all
    private static void writeIntoNoSuchSlot() {
        TensionNet x = new TensionNet();
        for (int slot : NO_SLOTS) {
            Check.due("4 slot " + slot, x.write(slot, 0, 1), -2);
            Check.due("4 slot ahead of number", x.write(slot, -1, 1), -2);
        }
        x.row(0, 0, 1);
        x.row(7, 0, 1);
        Check.due("4 the first", x.write(0, 0, 1), 0);
        Check.due("4 the last", x.write(7, 0, 1), 0);
    }

    // "-5: it has nothing", ahead of the number
    private static void writeIntoNothing() {
        TensionNet x = new TensionNet();
        Check.due("4 nothing", x.write(2, 0, 1), -5);
        Check.due("4 nothing, ahead of a number below", x.write(2, -1, 1), -5);
        Check.due("4 nothing, ahead of a number above", x.write(2, 60, 1), -5);
        x.row(2, 0, 0);
        Check.due("4 a row without numbers is not nothing", x.write(2, 0, 1), -6);
        x.row(2, 0, 1);
        Check.due("4 a row", x.write(2, 0, 1), 0);
    }

    // "-6: there is no such number"
    private static void writeOfNoSuchNumber() {
        for (int width = 0; width < 4; width++) {
            TensionNet x = new TensionNet();
            x.row(0, width, 3);
            Check.due("4 number -1", x.write(0, -1, 1), -6);
            Check.due("4 number 0", x.write(0, 0, 1), 0);
            Check.due("4 number 2", x.write(0, 2, 1), 0);
            Check.due("4 number 3", x.write(0, 3, 1), -6);
            Check.due("4 number 59", x.write(0, 59, 1), -6);
            Check.due("4 number 60", x.write(0, 60, 1), -6);
            Check.due("4 the lowest number", x.write(0, LOW, 1), -6);
            Check.due("4 the highest number", x.write(0, HIGH, 1), -6);
        }
    }

    // "Number i of the SLOT's ROW is v, cut to its WIDTH": a wrap-around that takes the sign from its highest bit
    private static void writeCutsToTheWidth() {
        for (int width = 0; width < 3; width++) {
            long round = 1L << (8 << width);
            long[] tops = {0, round, -round, 5 * round, Long.MIN_VALUE, 1L << 62};
            for (long top : tops) {
                judgeCut(width, top + 20, 20);
                judgeCut(width, top - 20, -20);
                judgeCut(width, top, 0);
                judgeCut(width, top + 21, HIGH);
                judgeCut(width, top - 21, HIGH);
                judgeCut(width, top + round / 2 - 1, HIGH);
                judgeCut(width, top + round / 2, HIGH);
                judgeCut(width, top + round / 2 + 20, HIGH);
                judgeCut(width, top + round / 2 - 20, HIGH);
            }
            judgeCut(width, -1, -1);
            judgeCut(width, round - 1, -1);
            judgeCut(width, Long.MAX_VALUE, -1);
            judgeCut(width, Long.MIN_VALUE, 0);
        }
    }

    // "numbers of .. 8 bytes": nothing is cut
    private static void writeOfEightBytesIsWhole() {
        judgeCut(3, 20, 20);
        judgeCut(3, -20, -20);
        long[] others = {1L << 8, 1L << 16, 1L << 32, 1L << 62, Long.MIN_VALUE};
        for (long other : others) {
            judgeCut(3, other, HIGH);
            judgeCut(3, other + 20, HIGH);
            judgeCut(3, -other - 20, HIGH);
        }
        judgeCut(3, Long.MAX_VALUE, HIGH);
    }

    // A place is all that a net tells of a row's number; HIGH where it must be refused.
    private static void judgeCut(int width, long v, int due) {
        TensionNet x = written(width, 1, v, -7, 1, 0);
        Check.due("4 " + v + " of width " + width, x.net(0), due == HIGH ? -4 : 0);
        Check.due("4 " + v + " of width " + width + " as x", x.told(0, 0), due == HIGH ? 0 : due);
        Check.due("4 beside " + v + " of width " + width, x.told(0, 1), due == HIGH ? 0 : -7);
    }

    private static void writeTouchesOneNumberAlone() {
        TensionNet x = written(1, 1, 3, 4, 1, 0);
        write(x, 1, 1, 5, 1, 5, 6, 0, 0);
        x.net(0);
        x.load(0, 9, 9);
        x.left(0, 0);
        String before = Check.state(x);
        Check.refused("4 behind", x, before, x.write(0, 5, 8), -6);
        Check.refused("4 ahead", x, before, x.write(0, -1, 8), -6);
        Check.refused("4 no slot", x, before, x.write(8, 1, 8), -2);
        Check.refused("4 nothing", x, before, x.write(2, 1, 8), -5);
        Check.due("4 write", x.write(0, 2, -9), 0);
        Check.due("4 the net stays as it was taken", Check.state(x).equals(before), true);
        Check.due("4 take", x.net(0), 0);
        Check.due("4 the number ahead", x.told(0, 0), 3);
        Check.due("4 the number", x.told(0, 1), -9);
        Check.due("4 the number behind", x.told(0, 2), 1);
        Check.due("4 take another", x.net(1), 0);
        Check.due("4 another slot", x.told(0, 1), 6);
    }

    // "-2: there is no such SLOT"
    private static void netOfNoSuchSlot() {
        TensionNet x = new TensionNet();
        for (int slot = 0; slot < 8; slot++) {
            write(x, slot, 0, 5, 1, slot, 0, 0, 0);
        }
        for (int slot : NO_SLOTS) {
            Check.due("5 slot " + slot, x.net(slot), -2);
        }
        for (int slot = 0; slot < 8; slot++) {
            Check.due("5 slot " + slot, x.net(slot), 0);
            Check.due("5 its own numbers", x.told(0, 0), slot);
        }
    }

    // "-5: it has nothing"
    private static void netOfNothing() {
        TensionNet x = new TensionNet();
        Check.due("5 nothing", x.net(0), -5);
        x.row(0, 0, 0);
        Check.due("5 a row without numbers is not nothing", x.net(0), -6);
        x.tear(0);
        Check.due("5 torn", x.net(0), -5);
    }

    // "-6: the ROW ends ahead of one": each of the numbers in turn
    private static void netOfARowThatEnds() {
        for (int n = 0; n <= GOOD.length; n++) {
            TensionNet x = new TensionNet();
            write(x, 0, 0, n, GOOD);
            Check.due("5 a row of " + n, x.net(0), n < GOOD.length ? -6 : 1);
            Check.due("5 joints after a row of " + n, x.count(0), n < GOOD.length ? 1 : 2);
        }
        long[] more = Arrays.copyOf(GOOD, 60);
        Arrays.fill(more, GOOD.length, 60, 99);
        Check.due("5 numbers behind the last one", answer(more), 1);
    }

    // "places x, y (-20 to 20)", "FIXED (1, 0)", "sort": each number at its lowest and highest
    private static void netOfNumbersAtTheirEnds() {
        int[] whats = {-1, 0, 1, 2, 0, 1, 2, -1, 10, 11, 12};
        int[] ofs = {0, 0, 0, 0, 1, 1, 1, 0, 0, 0, 0};
        for (int i = 0; i < GOOD.length; i++) {
            // How many there are, and which joints are ends, cannot be changed alone: tests of their own do.
            if (whats[i] >= 0 && whats[i] != 10 && whats[i] != 11) {
                judgeEnd(i, LOWEST[i], ofs[i], whats[i]);
                judgeEnd(i, HIGHEST[i], ofs[i], whats[i]);
            }
        }
        Check.due("5 sort 1", written(3, 2, 1, 2, 0, 4, 5, 1, 1, 0, 1, 1).net(0), 1);
    }

    private static void judgeEnd(int i, long v, int of, int what) {
        long[] numbers = GOOD.clone();
        numbers[i] = v;
        TensionNet x = written(3, numbers);
        Check.due("5 number " + i + " is " + v, x.net(0), 1);
        Check.due("5 number " + i + " tells " + v, x.told(of, what), v);
    }

    // "-4: one is not as told"
    private static void netOfNumbersBeyondTheirEnds() {
        for (int i = 0; i < GOOD.length; i++) {
            long[] beyond = {LOWEST[i] - 1, HIGHEST[i] + 1, GOOD[i] + (1L << 32), GOOD[i] - (1L << 32),
                Long.MIN_VALUE, Long.MAX_VALUE, LOW, HIGH};
            for (long v : beyond) {
                long[] numbers = GOOD.clone();
                numbers[i] = v;
                Check.due("5 number " + i + " is " + v, answer(numbers), -4);
            }
        }
    }

    // "as the numbers are read one by one": what is read first is told, be it -4 or -6
    private static void netReadsOneByOne() {
        for (int i = 0; i < GOOD.length; i++) {
            long[] numbers = Arrays.copyOf(GOOD, i + 1);
            numbers[i] = HIGHEST[i] + 1;
            Check.due("5 number " + i + " wrong, then the end", answer(numbers), -4);
            TensionNet x = new TensionNet();
            write(x, 0, 3, i, numbers);
            Check.due("5 the end, then number " + i, x.net(0), -6);
        }
        Check.due("5 a wrong x ahead of a missing joint", answer(8, 21), -4);
        Check.due("5 eight joints and no more", answer(8), -6);
        Check.due("5 fourteen members and no more", answer(2, 1, 2, 0, 4, 5, 1, 14), -6);
        Check.due("5 fifteen members and no more", answer(2, 1, 2, 0, 4, 5, 1, 15), -4);
        Check.due("5 the second member wrong", answer(2, 1, 2, 0, 4, 5, 1, 2, 0, 1, 2, 0, 1, 3), -4);
        Check.due("5 the second member missing", answer(2, 1, 2, 0, 4, 5, 1, 2, 0, 1, 2), -6);
        Check.due("5 the first wrong, the second missing", answer(2, 1, 2, 0, 4, 5, 1, 2, 0, 1, 3), -4);
    }

    // "(at its b, if a MEMBER's ends are one JOINT ..)"
    private static void netOfEndsThatAreOneJoint() {
        for (int joint = 0; joint < 2; joint++) {
            Check.due("5 a alone", answer(2, 1, 2, 0, 4, 5, 1, 1, joint), -6);
            Check.due("5 a and b are one", answer(2, 1, 2, 0, 4, 5, 1, 1, joint, joint), -4);
            Check.due("5 a and b are one, sort", answer(2, 1, 2, 0, 4, 5, 1, 1, joint, joint, 0), -4);
            Check.due("5 a and b are two", answer(2, 1, 2, 0, 4, 5, 1, 1, joint, 1 - joint, 0), 1);
            Check.due("5 a and b are two, no sort", answer(2, 1, 2, 0, 4, 5, 1, 1, joint, 1 - joint), -6);
        }
        Check.due("5 of one joint alone", answer(1, 0, 0, 0, 1, 0, 0, 0), -4);
    }

    // "(at its b, if a MEMBER's ends are .. at one place)"
    private static void netOfEndsAtOnePlace() {
        Check.due("5 one place", answer(2, 4, 5, 0, 4, 5, 1, 1, 0, 1, 0), -4);
        Check.due("5 one place, told at b", answer(2, 4, 5, 0, 4, 5, 1, 1, 0, 1), -4);
        Check.due("5 one place, not at a", answer(2, 4, 5, 0, 4, 5, 1, 1, 0), -6);
        Check.due("5 x alike, y above", answer(2, 4, 5, 0, 4, 6, 1, 1, 0, 1, 0), 1);
        Check.due("5 x alike, y below", answer(2, 4, 5, 0, 4, 4, 1, 1, 0, 1, 0), 1);
        Check.due("5 y alike, x above", answer(2, 4, 5, 0, 5, 5, 1, 1, 0, 1, 0), 1);
        Check.due("5 y alike, x below", answer(2, 4, 5, 0, 3, 5, 1, 1, 0, 1, 0), 1);
        Check.due("5 x and y by turns", answer(2, 4, 5, 0, 5, 4, 1, 1, 0, 1, 0), 1);
        Check.due("5 x against x", answer(2, 4, 5, 0, -4, -5, 1, 1, 0, 1, 0), 1);
        Check.due("5 one place without a member", answer(2, 4, 5, 0, 4, 5, 1, 0), 0);
        Check.due("5 one place, members to a third", answer(3, 4, 5, 0, 4, 5, 1, 0, 0, 1, 2, 0, 2, 0, 1, 2, 0), 2);
    }

    // "JOINTS, 1 to 8"
    private static void netOfFewestAndMostJoints() {
        for (int joints = 0; joints < 10; joints++) {
            TensionNet x = new TensionNet();
            write(x, 0, 0, 2 + 3 * joints, joints);
            for (int j = 0; j < joints; j++) {
                x.write(0, 1 + 3 * j, j);
                x.write(0, 3 + 3 * j, j % 2);
            }
            boolean fits = joints >= 1 && joints <= 8;
            Check.due("5 joints " + joints, x.net(0), fits ? 0 : -4);
            Check.due("5 so many joints", x.count(0), fits ? joints : 1);
            Check.due("5 so many free ones", x.count(1), fits ? (joints + 1) / 2 : 1);
            Check.due("5 the last one's x", x.told(joints - 1, 0), fits ? joints - 1 : 0);
        }
    }

    // "MEMBERS, 0 to 14"
    private static void netOfFewestAndMostMembers() {
        for (int members = -1; members < 16; members++) {
            TensionNet x = new TensionNet();
            write(x, 0, 0, 60, 2, 0, 0, 0, 1, 0, 0, members);
            for (int m = 0; m < members; m++) {
                x.write(0, 9 + 3 * m, 1);
                x.write(0, 10 + 3 * m, m % 3);
            }
            boolean fits = members >= 0 && members <= 14;
            Check.due("5 members " + members, x.net(0), fits ? members : -4);
            Check.due("5 so many members", x.count(2), fits ? members : 0);
            Check.due("5 the last one's sort", x.told(members - 1, 12), fits && members > 0 ? (members - 1) % 3 : 0);
        }
        // Eight joints leave room for eleven members in sixty numbers.
        long[] full = new long[60];
        full[0] = 8;
        for (int j = 0; j < 8; j++) {
            full[1 + 3 * j] = j;
        }
        for (int m = 0; m < 11; m++) {
            full[26 + 3 * m] = m % 8;
            full[27 + 3 * m] = (m + 1) % 8;
        }
        full[25] = 11;
        Check.due("5 the fullest row", answer(full), 11);
        full[25] = 12;
        Check.due("5 a member more, whose a is the last number", answer(full), -6);
        full[59] = 8;
        Check.due("5 a member more, whose a is wrong", answer(full), -4);
    }

    // "two unlike JOINTS a and b": numbered from 0 on, as many as there are
    private static void netOfEndsAmongItsJoints() {
        for (int joints = 2; joints <= 8; joints++) {
            long[] numbers = new long[2 + 3 * joints + 3];
            numbers[0] = joints;
            for (int j = 0; j < joints; j++) {
                numbers[1 + 3 * j] = j;
            }
            int at = 1 + 3 * joints;
            numbers[at] = 1;
            long[][] ends = {{0, joints - 1, 1}, {joints - 1, 0, 1}, {0, joints, -4}, {joints, 0, -4}, {-1, 0, -4},
                {0, -1, -4}};
            for (long[] end : ends) {
                numbers[at + 1] = end[0];
                numbers[at + 2] = end[1];
                Check.due("5 " + joints + " joints, ends " + end[0] + ", " + end[1], answer(numbers), end[2]);
            }
        }
    }

    // "in place of the one there is": all answers are the new one's, whatever was asked of the old one
    private static void netTakesAnothersPlace() {
        TensionNet x = Nets.roof();
        Check.due("5 a line beside the roof", Check.build(x, 1, 3, 0, 0, 1, 4, 0, 1, 2, 0, 0, 2, 0, 2, 1, 2, 1, 2), 2);
        Check.due("5 a joint beside them", Check.build(x, 2, 1, 5, 5, 1, 0), 0);
        int[] slots = {7, 1, 2, 1, 7, 2, 7};
        for (int slot : slots) {
            Check.due("5 net", x.net(slot), slot == 2 ? 0 : 2);
            Check.due("5 joints", x.count(0), slot == 2 ? 1 : 3);
            Check.due("5 free ones", x.count(1), slot == 2 ? 0 : 1);
            Check.due("5 members", x.count(2), slot == 2 ? 0 : 2);
            Check.due("5 stresses", x.stresses(), slot == 1 ? 1 : 0);
            Check.due("5 ways", x.ways(), slot == 1 ? 1 : 0);
            Check.due("5 led", x.told(1, 14), slot == 7 ? 1 : 0);
            Check.due("5 borne", x.borne(), slot == 1 ? 2 : 1);
            Check.due("5 shaped", x.shaped(), slot == 2);
            Check.due("5 tight", x.tight(), slot == 1 ? 0 : 1);
            Check.due("5 stiff", x.stiff(), slot == 1 ? 0 : 1);
            x.pull(0, 1);
            Check.due("5 shaped by a pull", x.shaped(), true);
            x.load(2, 0, 1);
            Check.due("5 borne with a load", x.borne(), slot == 1 ? 0 : 1);
        }
    }

    // "(LOADS and TOLD PULLS 0)"
    private static void netSetsLoadsAndPullsToNought() {
        TensionNet x = Nets.roof();
        for (int round = 0; round < 3; round++) {
            for (int k = 0; k < 3; k++) {
                x.load(k, 1000, -1000);
                x.pull(k, 1000);
            }
            Check.due("5 loaded", x.even(), false);
            x.left(2, 0);
            String result = Check.top(x) + "/" + Check.bottom(x);
            Check.due("5 the same again", x.net(7), 2);
            for (int k = 0; k < 3; k++) {
                Check.due("5 load", x.told(k, 3) == 0 && x.told(k, 4) == 0, true);
                Check.due("5 pull", x.told(k, 13), 0);
            }
            Check.due("5 even", x.even(), true);
            Check.due("5 the result stays", result.equals(Check.top(x) + "/" + Check.bottom(x)), true);
        }
    }

    // "Each call that is refused .. changes nothing (the RESULT stays)"
    private static void netRefusedLeavesAll() {
        TensionNet x = Nets.roof();
        x.load(2, 3, 5);
        x.load(0, 1, 2);
        x.pull(0, 7);
        x.pull(1, -7);
        x.bears(0);
        for (int i = 0; i < GOOD.length; i++) {
            long[] numbers = GOOD.clone();
            numbers[i] = HIGHEST[i] + 1;
            write(x, 1, 3, GOOD.length, numbers);
            String before = Check.state(x);
            Check.refused("5 number " + i + " wrong", x, before, x.net(1), -4);
            write(x, 1, 3, i, GOOD);
            Check.refused("5 no number " + i, x, before, x.net(1), -6);
        }
        String before = Check.state(x);
        Check.refused("5 nothing", x, before, x.net(2), -5);
        Check.refused("5 no slot", x, before, x.net(8), -2);
        Check.result("5 the result", x, 13, 4);
        Check.result("5 what bears", x, x.bears(1), 7, 4);
        Check.due("5 ways", x.ways(), 0);
        Check.due("5 stresses", x.stresses(), 0);
        Check.due("5 shaped", x.shaped(), false);
    }
}
