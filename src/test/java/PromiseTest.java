import java.math.BigInteger;

/** Each promise of the document by its number: ordinary inputs, the edges that it names, and wrong inputs. */
public final class PromiseTest {
    private static final int LOW = Integer.MIN_VALUE;
    private static final int HIGH = Integer.MAX_VALUE;

    private PromiseTest() {
    }

    public static void main(String[] args) {
        newObject();
        row();
        tear();
        write();
        net();
        netRefusals();
        netInPlaceOfAnother();
        load();
        pull();
        stresses();
        stress();
        ways();
        way();
        even();
        left();
        borne();
        bears();
        shaped();
        shape();
        tight();
        tightOfFewStresses();
        stiff();
        look();
        part();
        told();
        count();
        Check.end();
    }

    private static void newObject() {
        TensionNet x = new TensionNet();
        Check.due("1 NONE", TensionNet.NONE, -1);
        Check.result("1 result", x, 0, 1);
        Check.due("1 look(0)", x.look(0), 0);
        Check.due("1 joints", x.count(0), 1);
        Check.due("1 free", x.count(1), 1);
        Check.due("1 members", x.count(2), 0);
        Check.due("1 slots", x.count(3), 0);
        for (int what = 0; what < 15; what++) {
            Check.due("1 told", x.told(0, what), 0);
        }
        Check.due("1 stresses", x.stresses(), 0);
        Check.due("1 ways", x.ways(), 2);
        Check.due("1 even", x.even(), true);
        Check.due("1 borne", x.borne(), 1);
        Check.due("1 shaped", x.shaped(), false);
        Check.due("1 shape", x.shape(0, 0), false);
        Check.due("1 tight", x.tight(), 1);
        Check.due("1 stiff", x.stiff(), 0);
        for (int slot = 0; slot < 8; slot++) {
            Check.due("1 empty", x.write(slot, 0, 0), -5);
        }
        TensionNet other = new TensionNet();
        Check.due("1 load", other.load(0, 3, 4), 0);
        Check.due("1 borne of the loaded one", other.borne(), 0);
        Check.due("1 borne of the other", x.borne(), 1);
    }

    private static void row() {
        TensionNet x = new TensionNet();
        Check.due("2 widths", x.row(0, 0, 1) + x.row(1, 1, 1) + x.row(2, 2, 1) + x.row(7, 3, 60), 0);
        Check.due("2 no number", x.row(3, 0, 0), 0);
        Check.due("2 filled", x.count(3), 5);
        int[] slots = {-1, 8, LOW, HIGH};
        for (int slot : slots) {
            Check.due("2 slot", x.row(slot, 0, 1), -2);
            Check.due("2 slot ahead of n", x.row(slot, 0, -1), -2);
        }
        int[] widths = {-1, 4, LOW, HIGH};
        for (int width : widths) {
            Check.due("2 width", x.row(0, width, 1), -2);
            Check.due("2 width ahead of n", x.row(0, width, -1), -2);
        }
        Check.due("2 n above", x.row(0, 0, 61), -2);
        Check.due("2 n far above", x.row(0, 0, HIGH), -2);
        Check.due("2 n below", x.row(0, 0, -1), -3);
        Check.due("2 n far below", x.row(0, 0, LOW), -3);
        Check.due("2 the last of 60", x.write(7, 59, 1), 0);
        Check.due("2 behind the last of 60", x.write(7, 60, 1), -6);
        Check.due("2 refused rows stay", x.write(0, 0, 1), 0);
        Check.due("2 a net in slot 4", Check.build(x, 4, 1, 3, 4, 1, 0), 0);
        Check.due("2 again", x.row(4, 3, 5), 0);
        Check.due("2 all 0 again", x.net(4), -4);
        Check.due("2 joints", x.write(4, 0, 1), 0);
        Check.due("2 net of 0s", x.net(4), 0);
        Check.due("2 x is 0 again", x.told(0, 0), 0);
        Check.due("2 fixed is 0 again", x.told(0, 2), 0);
        Check.due("2 a refused row changes nothing", x.row(4, 3, -1) + x.row(4, 3, 61) + x.net(4), -5);
        Check.due("2 torn and made", x.tear(4), true);
        Check.due("2 made shorter", x.row(4, 0, 2), 0);
        Check.due("2 shorter", x.write(4, 2, 1), -6);
    }

    private static void tear() {
        TensionNet x = new TensionNet();
        Check.due("3 empty", x.tear(0), false);
        x.row(0, 0, 0);
        x.row(7, 3, 60);
        Check.due("3 filled", x.tear(0), true);
        Check.due("3 again", x.tear(0), false);
        Check.due("3 the last", x.tear(7), true);
        Check.due("3 none", x.count(3), 0);
        Check.due("3 write", x.write(7, 0, 1), -5);
        Check.due("3 net", x.net(7), -5);
        int[] slots = {-1, 8, LOW, HIGH};
        for (int slot : slots) {
            Check.due("3 slot", x.tear(slot), false);
        }
        Check.build(x, 2, 1, 3, 4, 1, 0);
        Check.due("3 tear", x.tear(2), true);
        Check.due("3 the net stays", x.told(0, 1), 4);
    }

    private static void write() {
        TensionNet x = new TensionNet();
        int[] slots = {-1, 8, LOW, HIGH};
        for (int slot : slots) {
            Check.due("4 slot", x.write(slot, -1, 0), -2);
        }
        Check.due("4 empty", x.write(0, -1, 0), -5);
        x.row(0, 0, 2);
        int[] numbers = {-1, 2, LOW, HIGH};
        for (int i : numbers) {
            Check.due("4 number", x.write(0, i, 0), -6);
        }
        x.row(1, 2, 0);
        Check.due("4 no number", x.write(1, 0, 0), -6);
        long[][] cuts = {{0x1_05L, -3 + 0x1_00L, 0x7F01L}, {0x1_0005L, 0xFFFDL, 0x7F_0001L},
            {0x1_0000_0005L, 0xFFFF_FFFDL, 0x7F_0000_0001L}};
        for (int width = 0; width < 3; width++) {
            x.row(2, width, 5);
            Check.due("4 write", x.write(2, 0, cuts[width][2]), 0);
            x.write(2, 1, cuts[width][0]);
            x.write(2, 2, cuts[width][1]);
            Check.due("4 cut to width " + width, x.net(2), 0);
            Check.due("4 cut x", x.told(0, 0), 5);
            Check.due("4 cut y", x.told(0, 1), -3);
            x.row(3, width + 1, 5);
            x.write(3, 0, 1);
            x.write(3, 1, cuts[width][0]);
            Check.due("4 not cut to width " + width, x.net(3), -4);
        }
        x.row(3, 3, 5);
        x.write(3, 0, 1);
        x.write(3, 1, Long.MIN_VALUE);
        Check.due("4 not cut at all", x.net(3), -4);
        x.write(3, 1, -20);
        Check.due("4 written again", x.net(3), 0);
        Check.due("4 x", x.told(0, 0), -20);
    }

    private static void net() {
        TensionNet x = new TensionNet();
        Check.due("5 all ends", Check.build(x, 0, 2, -20, 20, 0, 20, -20, 1, 3, 0, 1, 0, 1, 0, 1, 0, 1, 2), 3);
        int[] due = {-20, 20, 0, 20, -20, 1};
        for (int i = 0; i < 6; i++) {
            Check.due("5 joint", x.told(i / 3, i % 3), due[i]);
        }
        int[] ends = {0, 1, 0, 1, 0, 1, 0, 1, 2};
        for (int i = 0; i < 9; i++) {
            Check.due("5 member", x.told(i / 3, 10 + i % 3), ends[i]);
        }
        Check.due("5 more numbers than needed", Check.build(x, 1, 1, 2, 3, 0, 0, 77, 88), 0);
        Check.due("5 two joints at one place", Check.build(x, 1, 2, 2, 3, 0, 2, 3, 0, 0), 0);
        long[] large = new long[59];
        large[0] = 8;
        for (int j = 0; j < 8; j++) {
            large[1 + 3 * j] = j;
            large[2 + 3 * j] = j * j % 5;
        }
        large[25] = 11;
        for (int m = 0; m < 11; m++) {
            large[26 + 3 * m] = m % 8;
            large[27 + 3 * m] = (m + 1) % 8;
        }
        Check.due("5 eight joints", Check.build(x, 2, large), 11);
        Check.due("5 joints", x.count(0), 8);
        long[] many = new long[59];
        many[0] = 2;
        many[4] = 1;
        many[7] = 14;
        for (int m = 0; m < 14; m++) {
            many[9 + 3 * m] = 1;
        }
        Check.due("5 fourteen members", Check.build(x, 2, many), 14);
        Check.due("5 stresses of them", x.stresses(), 13);
        many[7] = 15;
        Check.due("5 fifteen members", Check.build(x, 2, many), -4);
        Check.due("5 fourteen stay", x.count(2), 14);
    }

    private static void netRefusals() {
        TensionNet x = new TensionNet();
        int[] slots = {-1, 8, LOW, HIGH};
        for (int slot : slots) {
            Check.due("5 slot", x.net(slot), -2);
        }
        Check.due("5 empty", x.net(3), -5);
        long[] good = {2, 1, 2, 0, 4, 5, 1, 1, 0, 1, 2};
        long[][] wrong = {{0, 9, -1}, {-21, 21}, {-21, 21}, {-1, 2}, {-21, 21}, {-21, 21}, {-1, 2}, {-1, 15},
            {-1, 2, 1}, {-1, 2, 0}, {-1, 3}};
        for (int size = 0; size < good.length; size++) {
            x.row(0, 3, size);
            for (int i = 0; i < size; i++) {
                x.write(0, i, good[i]);
            }
            Check.due("5 ends ahead of " + size, x.net(0), -6);
            x.row(0, 3, size + 1);
            for (int i = 0; i < size; i++) {
                x.write(0, i, good[i]);
            }
            for (long v : wrong[size]) {
                x.write(0, size, v);
                // An a that is the b is told at b, which the row does not reach.
                Check.due("5 number " + size + " is " + v, x.net(0), size == 8 && v == 1 ? -6 : -4);
            }
            x.write(0, size, good[size] + (1L << 32));
            Check.due("5 number " + size + " beyond int", x.net(0), -4);
        }
        Check.due("5 nothing has changed", x.count(2), 0);
        Check.due("5 one joint", x.count(0), 1);
        Check.due("5 the good one", x.write(0, 10, 2) + x.net(0), 1);
        Check.due("5 ends at one place", Check.build(x, 1, 2, 1, 2, 0, 1, 2, 1, 1, 0, 1), -4);
        Check.due("5 x alone is alike", Check.build(x, 1, 2, 1, 2, 0, 1, 3, 1, 1, 0, 1, 0), 1);
        Check.due("5 one joint with a member", Check.build(x, 1, 1, 0, 0, 0, 1, 0, 0, 0), -4);
    }

    private static void netInPlaceOfAnother() {
        TensionNet x = Nets.roof();
        x.load(2, 3, 4);
        x.pull(1, 5);
        x.bears(1);
        long top = Check.top(x).longValue();
        long bottom = Check.bottom(x).longValue();
        Check.due("5 refused", Check.build(x, 1, 2, 1, 2), -6);
        Check.due("5 load stays", x.told(2, 4), 4);
        Check.due("5 pull stays", x.told(1, 13), 5);
        Check.due("5 joints stay", x.count(0), 3);
        Check.due("5 again", x.net(7), 2);
        Check.due("5 load is 0", x.told(2, 3) + x.told(2, 4), 0);
        Check.due("5 pull is 0", x.told(1, 13), 0);
        Check.result("5 the result stays", x, top, bottom);
        Check.due("5 ways", x.ways(), 0);
        Check.due("5 tight", x.tight(), 1);
        Check.due("5 shaped", x.shaped(), false);
        Check.due("5 borne", x.borne(), 1);
        Check.due("5 another net", Check.build(x, 1, 3, 0, 0, 1, 4, 0, 1, 2, 0, 0, 2, 0, 2, 1, 2, 1, 2), 2);
        Check.due("5 its ways", x.ways(), 1);
        Check.due("5 its stresses", x.stresses(), 1);
        Check.due("5 its tight", x.tight(), 0);
        Check.due("5 its borne", x.borne(), 2);
        Check.due("5 its leading", x.told(1, 14), 0);
        tellAll(x, 9);
        Check.due("5 shaped", x.shaped(), true);
        Check.due("5 two by turns", x.net(7) + x.net(1), 4);
        Check.due("5 no shape any more", x.shaped(), false);
        for (int round = 0; round < 4; round++) {
            tellAll(x, 7 + round);
            Check.due("5 once more", x.net(round % 2 == 0 ? 7 : 1), 2);
            for (int k = 0; k < 3; k++) {
                Check.due("5 all loads are 0", x.told(k, 3) == 0 && x.told(k, 4) == 0, true);
                Check.due("5 all pulls are 0", x.told(k, 13), 0);
            }
        }
    }

    private static void tellAll(TensionNet x, int v) {
        for (int k = 0; k < 3; k++) {
            x.load(k, v, v + 1);
            x.pull(k, v);
        }
    }

    private static void load() {
        TensionNet x = Nets.roof();
        int[] joints = {-1, 3, LOW, HIGH};
        for (int joint : joints) {
            Check.due("6 joint", x.load(joint, 1001, 0), -2);
        }
        int[] numbers = {-1001, 1001, LOW, HIGH};
        for (int v : numbers) {
            Check.due("6 x", x.load(2, v, 0), -4);
            Check.due("6 y", x.load(2, 0, v), -4);
        }
        Check.due("6 all ends", x.load(2, -1000, 1000), 0);
        Check.due("6 told x", x.told(2, 3), -1000);
        Check.due("6 told y", x.told(2, 4), 1000);
        Check.due("6 refused", x.load(2, 5, 1001), -4);
        Check.due("6 x stays", x.told(2, 3), -1000);
        Check.due("6 fixed", x.load(0, 7, 8), 0);
        Check.due("6 fixed told", x.told(0, 4), 8);
        Check.due("6 in place of the first", x.load(2, 0, 0), 0);
        Check.due("6 a fixed one's does not matter", x.even(), true);
        Check.due("6 nor to what is borne", x.borne(), 1);
        x.bears(0);
        Check.result("6 nor to what bears", x, 0, 1);
    }

    private static void pull() {
        TensionNet x = Nets.roof();
        int[] members = {-1, 2, LOW, HIGH};
        for (int member : members) {
            Check.due("7 member", x.pull(member, 1001), -2);
        }
        int[] numbers = {-1001, 1001, LOW, HIGH};
        Check.due("7 all ends", x.pull(0, -1000) + x.pull(1, 1000), 0);
        for (int v : numbers) {
            Check.due("7 number", x.pull(0, v), -4);
        }
        Check.due("7 told", x.told(0, 13), -1000);
        Check.due("7 told", x.told(1, 13), 1000);
        Check.due("7 none", new TensionNet().pull(0, 0), -2);
    }

    private static void stresses() {
        Check.due("8 roof", Nets.roof().stresses(), 0);
        Check.due("8 line", Nets.line(0, 0).stresses(), 1);
        Check.due("8 square", Nets.square().stresses(), 3);
        Check.due("8 star", Nets.star(0, 0, 0, 0).stresses(), 3);
        Check.due("8 fixed ends alone",
                Check.bench(2, 0, 0, 1, 1, 0, 1, 2, 0, 1, 0, 1, 0, 1).stresses(), 2);
        Check.due("8 free ends alone", Check.bench(2, 0, 0, 0, 1, 0, 0, 2, 0, 1, 0, 1, 0, 1).stresses(), 1);
        TensionNet x = Nets.roof();
        x.load(2, 1, 1);
        x.pull(0, 1);
        Check.due("8 loads and pulls do not matter", x.stresses(), 0);
    }

    private static void stress() {
        // The members reach to 1, -1, 2 and -3: the first is led by the others.
        TensionNet x = Nets.star(0, 0, 0, 0);
        long[][] due = {{1, 1, 0, 0}, {-2, 0, 1, 0}, {3, 0, 0, 1}};
        for (int i = 0; i < 3; i++) {
            for (int m = 0; m < 4; m++) {
                Check.result("9 stress " + i + " of " + m, x, x.stress(i, m), due[i][m], 1);
            }
        }
        Check.result("9 one third", x, x.stress(2, 0), 3, 1);
        int[] out = {-1, 3, LOW, HIGH};
        for (int i : out) {
            Check.due("9 no stress", x.stress(i, 0), false);
        }
        int[] none = {-1, 4, LOW, HIGH};
        for (int m : none) {
            Check.due("9 no member", x.stress(0, m), false);
        }
        Check.result("9 the result stays", x, 3, 1);
        TensionNet y = Check.bench(3, 0, 0, 0, 3, 0, 1, -7, 0, 1, 2, 0, 1, 0, 0, 2, 0);
        Check.result("9 a fraction", y, y.stress(0, 0), 7, 3);
        TensionNet z = Check.bench(3, 0, 0, 0, 3, 0, 1, 7, 0, 1, 2, 0, 1, 0, 0, 2, 0);
        Check.result("9 a fraction below 0", z, z.stress(0, 0), -7, 3);
        Check.due("9 none at all", Nets.roof().stress(0, 0), false);
        Check.due("9 none of a new one", new TensionNet().stress(0, 0), false);
    }

    private static void ways() {
        Check.due("10 roof", Nets.roof().ways(), 0);
        Check.due("10 line", Nets.line(1, 1).ways(), 1);
        Check.due("10 square", Nets.square().ways(), 0);
        Check.due("10 free bar", Check.bench(2, 0, 0, 0, 1, 0, 0, 1, 0, 1, 0).ways(), 3);
        Check.due("10 eight free", Check.bench(8, 0, 0, 0, 0, 0, 0, 0, 0, 0, 0, 0, 0, 0, 0, 0, 0, 0, 0, 0, 0, 0,
                0, 0, 0, 0).ways(), 16);
        Check.due("10 all fixed", Check.bench(2, 0, 0, 1, 1, 0, 1, 1, 0, 1, 0).ways(), 0);
    }

    private static void way() {
        TensionNet x = Check.bench(2, 0, 0, 0, 3, 2, 0, 1, 0, 1, 0);
        // 3 (move x of 0 less that of 1) and 2 (of y): the first x is led by the others.
        long[][] tops = {{-2, 1, 0, 0}, {1, 0, 1, 0}, {2, 0, 0, 1}};
        long[][] bottoms = {{3, 1, 1, 1}, {1, 1, 1, 1}, {3, 1, 1, 1}};
        for (int i = 0; i < 3; i++) {
            for (int k = 0; k < 4; k++) {
                Check.result("11 way " + i + " at " + k, x, x.way(i, k / 2, k % 2), tops[i][k], bottoms[i][k]);
            }
        }
        Check.result("11 ahead of refusals", x, x.way(2, 0, 0), 2, 3);
        int[] out = {-1, 3, LOW, HIGH};
        for (int i : out) {
            Check.due("11 no way", x.way(i, 0, 0), false);
        }
        int[] none = {-1, 2, LOW, HIGH};
        for (int k : none) {
            Check.due("11 no joint", x.way(0, k, 0), false);
            Check.due("11 no axis", x.way(0, 0, k), false);
        }
        Check.result("11 the result stays", x, 2, 3);
        TensionNet y = Nets.line(1, 1);
        Check.result("11 free", y, y.way(0, 2, 1), 1, 1);
        Check.result("11 fixed", y, y.way(0, 0, 1), 0, 1);
        Check.due("11 no way at all", Nets.roof().way(0, 2, 0), false);
    }

    private static void even() {
        TensionNet x = Nets.roof();
        Check.due("12 at first", x.even(), true);
        x.load(2, 0, -10);
        Check.due("12 loaded", x.even(), false);
        x.pull(0, -5);
        Check.due("12 half held", x.even(), false);
        x.pull(1, -5);
        Check.due("12 held", x.even(), true);
        x.load(2, 1, -10);
        Check.due("12 x", x.even(), false);
        x.load(2, 0, -10);
        x.load(0, 5, 5);
        Check.due("12 fixed", x.even(), true);
        TensionNet y = Check.bench(2, 0, 0, 0, 2, 3, 0, 1, 1, 0, 1);
        y.pull(0, 4);
        Check.due("12 both ends", y.even(), false);
        y.load(1, 8, 12);
        Check.due("12 one end", y.even(), false);
        y.load(0, -8, -12);
        Check.due("12 held at both", y.even(), true);
    }

    private static void left() {
        TensionNet x = Nets.roof();
        x.pull(0, 3);
        x.pull(1, -4);
        x.load(2, 100, -200);
        x.load(1, 7, 9);
        Check.result("13 free x", x, x.left(2, 0), 3 * -2 - 4 * 2 + 100, 1);
        Check.result("13 free y", x, x.left(2, 1), -3 + 4 - 200, 1);
        Check.result("13 fixed x", x, x.left(0, 0), 6, 1);
        Check.result("13 fixed y", x, x.left(0, 1), 3, 1);
        Check.result("13 fixed with load x", x, x.left(1, 0), -4 * -2 + 7, 1);
        Check.result("13 fixed with load y", x, x.left(1, 1), -4 + 9, 1);
        int[] none = {-1, 3, LOW, HIGH};
        for (int joint : none) {
            Check.due("13 no joint", x.left(joint, 0), false);
        }
        int[] axes = {-1, 2, LOW, HIGH};
        for (int axis : axes) {
            Check.due("13 no axis", x.left(0, axis), false);
        }
        Check.result("13 the result stays", x, 5, 1);
        TensionNet y = new TensionNet();
        y.load(0, -1000, 0);
        Check.result("13 a lone joint", y, y.left(0, 0), -1000, 1);
    }

    private static void borne() {
        TensionNet x = Nets.roof();
        x.load(2, 3, 4);
        Check.due("14 one", x.borne(), 1);
        TensionNet y = Nets.line(0, 0);
        Check.due("14 nothing to bear, many", y.borne(), 2);
        y.load(2, 0, 1);
        Check.due("14 across", y.borne(), 0);
        y.load(2, 1, 0);
        Check.due("14 along", y.borne(), 2);
        y.pull(0, 1);
        Check.due("14 told pulls do not matter", y.borne(), 2);
        TensionNet z = Check.bench(2, 0, 0, 0, 2, 3, 0, 1, 0, 1, 0);
        z.load(0, -4, -6);
        Check.due("14 one end", z.borne(), 0);
        z.load(1, 4, 6);
        Check.due("14 both ends", z.borne(), 1);
        Check.due("14 all fixed", Check.bench(2, 0, 0, 1, 1, 0, 1, 1, 0, 1, 0).borne(), 2);
        Check.due("14 all fixed, no member", Check.bench(1, 0, 0, 1, 0).borne(), 1);
        TensionNet lone = new TensionNet();
        lone.load(0, 0, 1);
        Check.due("14 a lone joint", lone.borne(), 0);
    }

    private static void bears() {
        TensionNet x = Nets.roof();
        x.load(2, 3, 5);
        // -2 p + 2 q + 3 = 0 and -p - q + 5 = 0.
        Check.result("15 first", x, x.bears(0), 13, 4);
        Check.result("15 second", x, x.bears(1), 7, 4);
        int[] none = {-1, 2, LOW, HIGH};
        for (int member : none) {
            Check.due("15 no member", x.bears(member), false);
        }
        Check.result("15 the result stays", x, 7, 4);
        x.load(2, 0, 0);
        Check.result("15 other loads", x, x.bears(0), 0, 1);
        TensionNet y = Nets.line(0, 0);
        y.load(2, 7, 0);
        Check.result("15 led", y, y.bears(0), 7, 2);
        Check.result("15 free", y, y.bears(1), 0, 1);
        y.load(2, 0, 1);
        Check.due("15 not borne", y.bears(0), false);
        Check.due("15 a lone joint", new TensionNet().bears(0), false);
    }

    private static void shaped() {
        TensionNet x = Nets.roof();
        Check.due("16 no pull", x.shaped(), false);
        x.pull(0, 1);
        Check.due("16 a pull", x.shaped(), true);
        x.pull(1, -1);
        Check.due("16 pulls that cancel", x.shaped(), false);
        x.load(2, 1, 1);
        Check.due("16 loads do not help", x.shaped(), false);
        x.pull(1, -2);
        Check.due("16 pushes", x.shaped(), true);
        Check.due("16 all fixed", Check.bench(1, 0, 0, 1, 0).shaped(), true);
        TensionNet y = Check.bench(2, 0, 0, 0, 2, 3, 0, 1, 0, 1, 0);
        y.pull(0, 5);
        Check.due("16 no fixed joint", y.shaped(), false);
    }

    private static void shape() {
        TensionNet x = Nets.roof();
        Check.due("17 no shape", x.shape(2, 0), false);
        Check.due("17 no shape for fixed ones", x.shape(0, 0), false);
        x.pull(0, 1);
        x.pull(1, 2);
        x.load(2, 4, -5);
        // -p + 2 (4 - p) + 4 = 0 for x, -3 q - 5 = 0 for y.
        Check.result("17 x", x, x.shape(2, 0), 4, 1);
        Check.result("17 y", x, x.shape(2, 1), -5, 3);
        Check.result("17 fixed", x, x.shape(1, 0), 4, 1);
        Check.result("17 fixed y", x, x.shape(1, 1), 0, 1);
        int[] none = {-1, 3, LOW, HIGH};
        for (int joint : none) {
            Check.due("17 no joint", x.shape(joint, 0), false);
        }
        int[] axes = {-1, 2, LOW, HIGH};
        for (int axis : axes) {
            Check.due("17 no axis", x.shape(0, axis), false);
        }
        Check.result("17 the result stays", x, 0, 1);
        x.pull(0, 5);
        Check.result("17 another pull", x, x.shape(2, 1), -5, 7);
        x.load(2, 4, -6);
        Check.result("17 another load", x, x.shape(2, 1), -6, 7);
        // Two free joints between fixed ends: thirds of the way.
        TensionNet y = Check.bench(4, 0, 0, 1, 5, 5, 0, 9, 9, 0, 7, -10, 1, 3, 0, 1, 1, 1, 2, 1, 2, 3, 1);
        y.pull(0, 2);
        y.pull(1, 2);
        y.pull(2, 2);
        Check.result("17 one third", y, y.shape(1, 0), 7, 3);
        Check.result("17 two thirds", y, y.shape(2, 1), -20, 3);
        TensionNet fixed = Check.bench(1, -3, 4, 1, 0);
        Check.result("17 all fixed", fixed, fixed.shape(0, 1), 4, 1);
    }

    private static void tight() {
        Check.due("18 two cables", Nets.line(1, 1).tight(), 1);
        Check.due("18 two struts", Nets.line(2, 2).tight(), 1);
        Check.due("18 a cable and a strut", Nets.line(1, 2).tight(), 0);
        Check.due("18 a bar and a strut", Nets.line(0, 2).tight(), 1);
        Check.due("18 two bars", Nets.line(0, 0).tight(), 1);
        Check.due("18 no stress, bars", Nets.roof().tight(), 1);
        Check.due("18 no stress, a cable", Check.bench(2, 0, 0, 0, 1, 0, 0, 1, 0, 1, 1).tight(), 0);
        Check.due("18 three stresses", Nets.star(1, 1, 1, 1).tight(), 1);
        Check.due("18 three stresses, one side", Nets.star(1, 2, 1, 2).tight(), 0);
        Check.due("18 three stresses, the other", Nets.star(2, 1, 2, 1).tight(), 0);
        Check.due("18 three stresses, a strut", Nets.star(1, 2, 2, 2).tight(), 1);
        Check.due("18 three stresses, a bar", Nets.star(0, 2, 1, 2).tight(), 1);
        Check.due("18 four stresses", Nets.star(1, 1, 1, 1, 1).tight(), -7);
        Check.due("18 four stresses of bars", Nets.star(0, 0, 0, 0, 0).tight(), -7);
    }

    private static void tightOfFewStresses() {
        Check.due("18 two stresses", Nets.star(1, 1, 1).tight(), 1);
        Check.due("18 two stresses, one side", Nets.star(1, 2, 1).tight(), 0);
        Check.due("18 two stresses, two struts", Nets.star(2, 2, 1).tight(), 1);
        // Four cables from a free joint to all sides, and one that no stress reaches.
        long[] cross = {6, 0, 0, 0, 3, 1, 1, -3, 1, 1, 0, -2, 1, 1, -4, 1, 9, 9, 0,
            5, 0, 1, 1, 0, 2, 1, 0, 3, 1, 0, 4, 1, 0, 5, 1};
        Check.due("18 a cable that holds nothing", Check.bench(cross).tight(), 0);
        cross[cross.length - 1] = 0;
        Check.due("18 a bar that holds nothing", Check.bench(cross).tight(), 1);
        cross[5] = -9;
        cross[8] = -9;
        Check.due("18 cables on one side", Check.bench(cross).tight(), 0);
        // Cables among fixed joints alone, each a stress of its own.
        Check.due("18 among fixed joints", Check.bench(3, 0, 0, 1, 1, 0, 1, 0, 1, 1,
                3, 0, 1, 1, 0, 2, 2, 1, 2, 1).tight(), 1);
        // Three stresses, but of cables and struts only two, and the first of them are bound to each other.
        Check.due("18 a bar's stress beside two", Check.bench(5, 0, 0, 0, 1, 0, 1, -1, 0, 1, 5, 5, 1, 6, 5, 1,
                4, 0, 1, 1, 0, 2, 1, 3, 4, 2, 3, 4, 0).tight(), 1);
        Check.due("18 a stress of bars beside", Check.bench(5, 0, 0, 0, 1, 0, 1, -1, 0, 1, 5, 5, 1, 6, 5, 1,
                3, 0, 1, 1, 0, 2, 1, 3, 4, 0).tight(), 1);
        Check.due("18 two stresses of bars beside", Check.bench(5, 0, 0, 0, 1, 0, 1, -1, 0, 1, 5, 5, 1, 6, 5, 1,
                4, 0, 1, 1, 0, 2, 2, 3, 4, 0, 3, 4, 0).tight(), 0);
    }

    private static void stiff() {
        TensionNet x = Nets.line(1, 1);
        Check.due("19 no pull", x.stiff(), 0);
        x.pull(0, 3);
        Check.due("19 no stress", x.stiff(), 0);
        x.pull(1, 3);
        Check.due("19 pulled", x.stiff(), 1);
        x.load(2, 9, 9);
        Check.due("19 loads do not matter", x.stiff(), 1);
        x.pull(0, -3);
        x.pull(1, -3);
        Check.due("19 pushed", x.stiff(), 0);
        TensionNet y = Nets.roof();
        Check.due("19 no way", y.stiff(), 1);
        y.pull(0, 1);
        Check.due("19 no way and no stress", y.stiff(), 0);
        Check.due("19 all fixed", Check.bench(1, 0, 0, 1, 0).stiff(), 1);
        // Lines of joints between fixed ends have a way across for each joint.
        TensionNet three = Check.bench(5, 0, 0, 1, 1, 0, 0, 2, 0, 0, 3, 0, 0, 4, 0, 1,
                4, 0, 1, 1, 1, 2, 1, 2, 3, 1, 3, 4, 1);
        TensionNet four = Check.bench(6, 0, 0, 1, 1, 0, 0, 2, 0, 0, 3, 0, 0, 4, 0, 0, 5, 0, 1,
                5, 0, 1, 1, 1, 2, 1, 2, 3, 1, 3, 4, 1, 4, 5, 1);
        Check.due("19 three ways", three.ways(), 3);
        Check.due("19 four ways", four.ways(), 4);
        Check.due("19 four ways without a pull", four.stiff(), -7);
        for (int m = 0; m < 5; m++) {
            three.pull(m, 1000);
            four.pull(m, 1000);
            Check.due("19 three ways, so many pulls", three.stiff(), m < 3 ? 0 : 1);
            Check.due("19 four ways, so many pulls", four.stiff(), m < 4 ? 0 : -7);
        }
        stiffOfTwoWays();
    }

    // Free joints at 2 and 4 in a line between fixed ones at 0 and 6, each bound to the other and to both ends: q
    // between them, r and s to the far ends give q + 2 s and q + 2 r to the near ends, and the form across is
    // (2 q + 3 s, -q; -q, 2 q + 3 r).
    private static void stiffOfTwoWays() {
        TensionNet x = Check.bench(4, 0, 0, 1, 6, 0, 1, 2, 0, 0, 4, 0, 0,
                5, 0, 2, 0, 2, 3, 0, 3, 1, 0, 0, 3, 0, 2, 1, 0);
        int[][] rows = {{1, 0, 0, 1}, {-1, 1, 1, 0}, {-1, 2, 1, 1}, {-1, 1, 2, 1}, {-3, 2, 2, 0}, {0, -1, 1, 0},
            {0, 1, -1, 0}, {0, -1, -1, 0}, {-1, 0, 0, 0}, {0, 1, 1, 1}, {0, 1, 0, 0}, {0, 0, 1, 0}};
        for (int[] row : rows) {
            int q = row[0];
            int r = row[1];
            int s = row[2];
            int[] pulls = {q + 2 * s, q, q + 2 * r, r, s};
            for (int m = 0; m < 5; m++) {
                x.pull(m, pulls[m]);
            }
            Check.due("19 two ways with " + q + ", " + r + ", " + s, x.stiff(), row[3]);
        }
    }

    private static void look() {
        TensionNet x = Nets.roof();
        int[] others = {-1, 3, LOW, HIGH};
        for (int what : others) {
            Check.due("20 another", x.look(what), -1);
        }
        Check.due("20 sign of 0", x.look(0), 0);
        Check.due("20 parts of 0", x.look(1), 1);
        Check.due("20 parts of 1", x.look(2), 1);
        x.load(2, 0, 5);
        x.left(2, 1);
        Check.due("20 above", x.look(0), 1);
        x.load(2, 0, -5);
        x.left(2, 1);
        Check.due("20 below", x.look(0), -1);
        TensionNet y = Nets.longChain();
        y.shape(7, 0);
        Check.due("20 sign of a long one", y.look(0), Check.top(y).signum());
        Check.due("20 parts of a long top", y.look(1), partsOf(Check.top(y).abs().toString()));
        Check.due("20 parts of a long bottom", y.look(2), partsOf(Check.bottom(y).toString()));
        Check.due("20 it is long", y.look(2) > 1, true);
    }

    private static int partsOf(String digits) {
        return (digits.length() + 8) / 9;
    }

    private static void part() {
        TensionNet x = new TensionNet();
        Check.due("21 top of 0", x.part(false, 0), 0);
        Check.due("21 bottom of 0", x.part(true, 0), 1);
        int[] none = {-1, 1, 2, 40, LOW, HIGH};
        for (int i : none) {
            Check.due("21 no part of the top", x.part(false, i), 0);
            Check.due("21 no part of the bottom", x.part(true, i), 0);
        }
        TensionNet y = Nets.longChain();
        // The end hangs by 1000 / each pull in turn: the bottom is the product of seven primes.
        y.shape(7, 1);
        BigInteger bottom = BigInteger.ONE;
        int[] primes = {997, 991, 983, 977, 971, 967, 953};
        for (int prime : primes) {
            bottom = bottom.multiply(BigInteger.valueOf(prime));
        }
        BigInteger top = BigInteger.ZERO;
        for (int prime : primes) {
            top = top.add(bottom.divide(BigInteger.valueOf(prime)));
        }
        top = top.multiply(BigInteger.valueOf(1000));
        Check.due("21 sign", y.look(0), -1);
        BigInteger base = BigInteger.valueOf(1_000_000_000);
        for (int i = 0; i < 4; i++) {
            BigInteger power = base.pow(i);
            Check.due("21 part of the top", y.part(false, i), top.divide(power).mod(base).longValue());
            Check.due("21 part of the bottom", y.part(true, i), bottom.divide(power).mod(base).longValue());
        }
    }

    private static void told() {
        TensionNet x = Check.bench(3, -7, 8, 1, 4, 0, 1, 2, 1, 0, 2, 2, 0, 2, 1, 2, 1);
        x.load(0, 3, -4);
        x.pull(0, 55);
        int[] joint = {-7, 8, 1, 3, -4, 0, 0, 0, 0, 0};
        int[] member = {2, 0, 2, 55, 1, 0};
        for (int what = 0; what < 10; what++) {
            Check.due("22 joint " + what, x.told(0, what), joint[what]);
        }
        for (int what = 10; what < 16; what++) {
            Check.due("22 member " + what, x.told(0, what), member[what - 10]);
        }
        Check.due("22 free", x.told(2, 2), 0);
        Check.due("22 there is a joint 2 alone", x.told(2, 0), 2);
        Check.due("22 no member 2", x.told(2, 10), 0);
        int[] none = {-1, 3, 8, 14, LOW, HIGH};
        for (int k : none) {
            for (int what = -1; what < 17; what++) {
                Check.due("22 none such", x.told(k, what), 0);
            }
        }
        Check.due("22 far off", x.told(0, LOW) + x.told(0, HIGH), 0);
        TensionNet y = Nets.square();
        int[] led = {1, 1, 1, 1, 0, 0, 0};
        for (int m = 0; m < 7; m++) {
            Check.due("22 led " + m, y.told(m, 14), led[m]);
        }
        TensionNet z = Nets.star(0, 0, 0);
        Check.due("22 led by none ahead", z.told(0, 14) * 100 + z.told(1, 14) * 10 + z.told(2, 14), 100);
        TensionNet fixed = Check.bench(2, 0, 0, 1, 1, 0, 1, 1, 0, 1, 0);
        Check.due("22 free among fixed joints", fixed.told(0, 14), 0);
    }

    private static void count() {
        TensionNet x = Nets.roof();
        Check.due("23 joints", x.count(0), 3);
        Check.due("23 free", x.count(1), 1);
        Check.due("23 members", x.count(2), 2);
        Check.due("23 slots", x.count(3), 1);
        int[] others = {-1, 4, LOW, HIGH};
        for (int what : others) {
            Check.due("23 another", x.count(what), -1);
        }
        for (int slot = 0; slot < 8; slot++) {
            x.row(slot, 0, 0);
        }
        Check.due("23 all slots", x.count(3), 8);
        x.row(3, 1, 1);
        Check.due("23 one made again", x.count(3), 8);
        x.tear(3);
        Check.due("23 one torn", x.count(3), 7);
    }
}
