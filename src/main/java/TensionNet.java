import java.util.Arrays;

/**
 * A bench for nets of joints, cables, struts and bars in a plane: which pulls hold a net by themselves, which ways
 * it can give, what holds told loads, the shape that told pulls give to it, whether all cables can be tight, and
 * whether a net that could give is made stiff by its pulls. All numbers are exact.
 */
public final class TensionNet {
    public static final int NONE = -1;

    private static final int ABSENT = -2;
    private static final int BELOW_NOUGHT = -3;
    private static final int UNFIT = -4;
    private static final int EMPTY = -5;
    private static final int ENDED = -6;
    private static final int NOT_TOLD = -7;

    private static final int SLOTS = 8;
    private static final int WIDTHS = 4;
    private static final int MOST_NUMBERS = 60;
    private static final int MOST_JOINTS = 8;
    private static final int MOST_MEMBERS = 14;
    private static final int MOST_MOVES = 2 * MOST_JOINTS;
    private static final int FARTHEST = 20;
    private static final int STRONGEST = 1000;
    private static final int MOST_JUDGED = 3;
    private static final int CABLE = 1;
    private static final int STRUT = 2;

    private static final int BASE = 1_000_000_000;

    // Every cell of a reduced grid is a minor of what the grid began with. Hadamard's bound keeps those of forces
    // and moves below 80^14 * 4000, and the sums over forests keep those of places below 10^31: four parts.
    private static final int CELL = 5;
    // The sums that tell stiffness are below 10^59, so their minors of order three are below 10^178: twenty parts.
    private static final int FORM_CELL = 24;
    // The last step of their reduction multiplies a minor of order three by one of order two before it divides, which
    // is below 10^297: thirty-three parts, and the division stretches it by one more.
    private static final int ROOM = 36;

    private final Slots slots = new Slots();
    private final Fraction result = new Fraction();
    private final Desk desk = new Desk();
    private final Grid forces = new Grid(MOST_MOVES, MOST_MEMBERS + 1, CELL, desk);
    private final Grid moves = new Grid(MOST_MEMBERS, MOST_MOVES, CELL, desk);
    private final Grid places = new Grid(MOST_JOINTS, MOST_JOINTS + 2, CELL, desk);
    private final Cone cone = new Cone();
    private final Form form = new Form(desk);
    private final Whole top = new Whole(ROOM);

    private Net net = new Net();
    private Net spare = new Net();

    // What has been worked out is kept until a call changes what it stands on.
    private boolean forcesKnown;
    private boolean bearingKnown;
    private boolean movesKnown;
    private boolean placesKnown;
    private boolean tightKnown;
    private boolean canBeTight;

    public TensionNet() {
    }

    public int row(int slot, int width, int n) {
        if (!isSlot(slot) || width < 0 || width >= WIDTHS || n > MOST_NUMBERS) {
            return ABSENT;
        }
        if (n < 0) {
            return BELOW_NOUGHT;
        }
        slots.make(slot, width, n);
        return 0;
    }

    public boolean tear(int slot) {
        if (!isSlot(slot) || !slots.isFilled(slot)) {
            return false;
        }
        slots.drop(slot);
        return true;
    }

    public int write(int slot, int i, long v) {
        if (!isSlot(slot)) {
            return ABSENT;
        }
        if (!slots.isFilled(slot)) {
            return EMPTY;
        }
        return slots.put(slot, i, v) ? 0 : ENDED;
    }

    public int net(int slot) {
        if (!isSlot(slot)) {
            return ABSENT;
        }
        if (!slots.isFilled(slot)) {
            return EMPTY;
        }
        slots.beginReading(slot);
        spare.readFrom(slots);
        if (slots.refusal != 0) {
            return slots.refusal;
        }
        Net old = net;
        net = spare;
        spare = old;
        forgetNet();
        return net.members;
    }

    public int load(int joint, int x, int y) {
        if (!net.hasJoint(joint)) {
            return ABSENT;
        }
        if (!isStrength(x) || !isStrength(y)) {
            return UNFIT;
        }
        net.loads[0][joint] = x;
        net.loads[1][joint] = y;
        bearingKnown = false;
        placesKnown = false;
        return 0;
    }

    public int pull(int member, int v) {
        if (!net.hasMember(member)) {
            return ABSENT;
        }
        if (!isStrength(v)) {
            return UNFIT;
        }
        net.pulls[member] = v;
        placesKnown = false;
        return 0;
    }

    public int stresses() {
        knowForces(false);
        return forces.freeColumns();
    }

    public boolean stress(int i, int member) {
        knowForces(false);
        if (i < 0 || i >= forces.freeColumns() || !net.hasMember(member)) {
            return false;
        }
        forces.fetchFree(top, i, member);
        result.become(top, forces.bottom, desk.divider);
        return true;
    }

    public int ways() {
        knowMoves();
        return moves.freeColumns();
    }

    public boolean way(int i, int joint, int axis) {
        knowMoves();
        if (i < 0 || i >= moves.freeColumns() || !net.hasJoint(joint) || !isAxis(axis)) {
            return false;
        }
        moves.fetchFree(top, i, net.moveOf(joint, axis));
        result.become(top, moves.bottom, desk.divider);
        return true;
    }

    public boolean even() {
        return net.isEven(true);
    }

    public boolean left(int joint, int axis) {
        if (!net.hasJoint(joint) || !isAxis(axis)) {
            return false;
        }
        result.become(net.pullsAt(joint, axis) + net.loads[axis][joint]);
        return true;
    }

    public int borne() {
        knowForces(true);
        if (!forces.isSolved(net.members)) {
            return 0;
        }
        return forces.freeColumns() == 0 ? 1 : 2;
    }

    public boolean bears(int member) {
        knowForces(true);
        if (!net.hasMember(member) || !forces.isSolved(net.members)) {
            return false;
        }
        forces.fetchSolution(top, member, net.members);
        result.become(top, forces.bottom, desk.divider);
        return true;
    }

    public boolean shaped() {
        knowPlaces();
        return places.freeColumns() == 0;
    }

    public boolean shape(int joint, int axis) {
        knowPlaces();
        if (places.freeColumns() != 0 || !net.hasJoint(joint) || !isAxis(axis)) {
            return false;
        }
        if (net.isFixed(joint)) {
            result.become(net.places[axis][joint]);
            return true;
        }
        places.fetchSolution(top, net.order[joint], net.free + axis);
        result.become(top, places.bottom, desk.divider);
        return true;
    }

    public int tight() {
        knowForces(false);
        if (forces.freeColumns() > MOST_JUDGED) {
            return NOT_TOLD;
        }
        if (!tightKnown) {
            canBeTight = cone.isOpen(net, forces);
            tightKnown = true;
        }
        return canBeTight ? 1 : 0;
    }

    public int stiff() {
        if (!net.isEven(false)) {
            return 0;
        }
        knowMoves();
        if (moves.freeColumns() > MOST_JUDGED) {
            return NOT_TOLD;
        }
        return form.isAboveNought(net, moves) ? 1 : 0;
    }

    public int look(int what) {
        switch (what) {
            case 0:
                return result.top.sign();
            case 1:
                return Math.max(1, result.top.size);
            case 2:
                return result.bottom.size;
            default:
                return NONE;
        }
    }

    public int part(boolean bottom, int i) {
        return bottom ? result.bottom.partAt(i) : result.top.partAt(i);
    }

    public int told(int k, int what) {
        if (what == 14) {
            knowForces(false);
            return net.hasMember(k) && forces.rowOf[k] != NONE ? 1 : 0;
        }
        return what < 10 ? net.ofJoint(k, what) : net.ofMember(k, what);
    }

    public int count(int what) {
        switch (what) {
            case 0:
                return net.joints;
            case 1:
                return net.free;
            case 2:
                return net.members;
            case 3:
                return slots.filled();
            default:
                return NONE;
        }
    }

    private static boolean isSlot(int slot) {
        return slot >= 0 && slot < SLOTS;
    }

    private static boolean isAxis(int axis) {
        return axis == 0 || axis == 1;
    }

    private static boolean isStrength(int v) {
        return v >= -STRONGEST && v <= STRONGEST;
    }

    private void forgetNet() {
        forcesKnown = false;
        bearingKnown = false;
        movesKnown = false;
        placesKnown = false;
        tightKnown = false;
    }

    // The column of loads takes no part in the choice of pivots, so one reduction serves stresses and bearing; what
    // is told of stresses outlives a change of loads.
    private void knowForces(boolean withLoads) {
        if (!forcesKnown || withLoads && !bearingKnown) {
            net.fillForces(forces);
            forces.reduce();
            forcesKnown = true;
            bearingKnown = true;
        }
    }

    private void knowMoves() {
        if (!movesKnown) {
            net.fillMoves(moves);
            moves.reduce();
            movesKnown = true;
        }
    }

    private void knowPlaces() {
        if (!placesKnown) {
            net.fillPlaces(places);
            places.reduce();
            placesKnown = true;
        }
    }

    /** The rows of numbers, and the reading of one of them number by number. */
    private static final class Slots {
        private final long[][] numbers = new long[SLOTS][MOST_NUMBERS];
        private final int[] widths = new int[SLOTS];
        private final int[] sizes = new int[SLOTS];
        private int open;
        private int at;
        int refusal;

        Slots() {
            Arrays.fill(sizes, NONE);
        }

        void make(int slot, int width, int n) {
            Arrays.fill(numbers[slot], 0L);
            widths[slot] = width;
            sizes[slot] = n;
        }

        void drop(int slot) {
            sizes[slot] = NONE;
        }

        boolean isFilled(int slot) {
            return sizes[slot] != NONE;
        }

        int filled() {
            int sum = 0;
            for (int slot = 0; slot < SLOTS; slot++) {
                sum += isFilled(slot) ? 1 : 0;
            }
            return sum;
        }

        boolean put(int slot, int i, long v) {
            if (i < 0 || i >= sizes[slot]) {
                return false;
            }
            numbers[slot][i] = cut(v, widths[slot]);
            return true;
        }

        private static long cut(long v, int width) {
            switch (width) {
                case 0:
                    return (byte) v;
                case 1:
                    return (short) v;
                case 2:
                    return (int) v;
                default:
                    return v;
            }
        }

        void beginReading(int slot) {
            open = slot;
            at = 0;
            refusal = 0;
        }

        /** The next number, or the lowest that is allowed once something has been refused: the first refusal stays. */
        int next(int lowest, int highest) {
            if (refusal != 0) {
                return lowest;
            }
            if (at >= sizes[open]) {
                refusal = ENDED;
                return lowest;
            }
            long v = numbers[open][at];
            at++;
            if (v < lowest || v > highest) {
                refusal = UNFIT;
                return lowest;
            }
            return (int) v;
        }

        void refuse() {
            if (refusal == 0) {
                refusal = UNFIT;
            }
        }
    }

    /** Joints and members with their loads and told pulls, and the equations that they give. */
    private static final class Net {
        int joints = 1;
        int free = 1;
        int members;
        final int[][] places = new int[2][MOST_JOINTS];
        final int[][] loads = new int[2][MOST_JOINTS];
        // Among the free joints alone; NONE for a fixed one.
        final int[] order = new int[MOST_JOINTS];
        final int[] from = new int[MOST_MEMBERS];
        final int[] to = new int[MOST_MEMBERS];
        final int[] sorts = new int[MOST_MEMBERS];
        final int[] pulls = new int[MOST_MEMBERS];

        boolean hasJoint(int joint) {
            return joint >= 0 && joint < joints;
        }

        boolean hasMember(int member) {
            return member >= 0 && member < members;
        }

        boolean isFixed(int joint) {
            return order[joint] == NONE;
        }

        /** May leave the net half read where the slots tell a refusal. */
        void readFrom(Slots slots) {
            readJoints(slots);
            readMembers(slots);
            Arrays.fill(loads[0], 0);
            Arrays.fill(loads[1], 0);
            Arrays.fill(pulls, 0);
        }

        private void readJoints(Slots slots) {
            joints = slots.next(1, MOST_JOINTS);
            free = 0;
            for (int j = 0; j < joints; j++) {
                places[0][j] = slots.next(-FARTHEST, FARTHEST);
                places[1][j] = slots.next(-FARTHEST, FARTHEST);
                boolean fixed = slots.next(0, 1) == 1;
                order[j] = fixed ? NONE : free;
                free += fixed ? 0 : 1;
            }
        }

        private void readMembers(Slots slots) {
            members = slots.next(0, MOST_MEMBERS);
            for (int m = 0; m < members; m++) {
                from[m] = slots.next(0, joints - 1);
                to[m] = slots.next(0, joints - 1);
                if (span(m, 0) == 0 && span(m, 1) == 0) {
                    slots.refuse();
                }
                sorts[m] = slots.next(0, STRUT);
            }
        }

        private int span(int member, int axis) {
            return places[axis][to[member]] - places[axis][from[member]];
        }

        int moveOf(int joint, int axis) {
            return isFixed(joint) ? NONE : 2 * order[joint] + axis;
        }

        /** What the told pulls alone come to at a joint. */
        int pullsAt(int joint, int axis) {
            int sum = 0;
            for (int m = 0; m < members; m++) {
                if (from[m] == joint) {
                    sum += pulls[m] * span(m, axis);
                }
                if (to[m] == joint) {
                    sum -= pulls[m] * span(m, axis);
                }
            }
            return sum;
        }

        boolean isEven(boolean withLoads) {
            for (int j = 0; j < joints; j++) {
                for (int axis = 0; axis < 2 && !isFixed(j); axis++) {
                    int sum = pullsAt(j, axis) + (withLoads ? loads[axis][j] : 0);
                    if (sum != 0) {
                        return false;
                    }
                }
            }
            return true;
        }

        /** A row for each move, a column for each member's pull, and one more for the loads that they are to bear. */
        void fillForces(Grid grid) {
            grid.begin(2 * free, members, 1);
            for (int axis = 0; axis < 2; axis++) {
                for (int m = 0; m < members; m++) {
                    grid.add(moveOf(from[m], axis), m, span(m, axis));
                    grid.add(moveOf(to[m], axis), m, -span(m, axis));
                }
                for (int j = 0; j < joints; j++) {
                    grid.add(moveOf(j, axis), members, -loads[axis][j]);
                }
            }
        }

        /** A row for each member, a column for each move. */
        void fillMoves(Grid grid) {
            grid.begin(members, 2 * free, 0);
            for (int m = 0; m < members; m++) {
                for (int axis = 0; axis < 2; axis++) {
                    grid.add(m, moveOf(from[m], axis), -span(m, axis));
                    grid.add(m, moveOf(to[m], axis), span(m, axis));
                }
            }
        }

        /** A row and a column for each free joint, as x and y have the same factors, and a column for each axis. */
        void fillPlaces(Grid grid) {
            grid.begin(free, free, 2);
            for (int m = 0; m < members; m++) {
                addHold(grid, from[m], to[m], pulls[m]);
                addHold(grid, to[m], from[m], pulls[m]);
            }
            for (int j = 0; j < joints; j++) {
                grid.add(order[j], free, loads[0][j]);
                grid.add(order[j], free + 1, loads[1][j]);
            }
        }

        private void addHold(Grid grid, int joint, int other, int pull) {
            grid.add(order[joint], order[joint], pull);
            grid.add(order[joint], order[other], -pull);
            if (isFixed(other)) {
                grid.add(order[joint], free, pull * places[0][other]);
                grid.add(order[joint], free + 1, pull * places[1][other]);
            }
        }

        int ofJoint(int joint, int what) {
            if (!hasJoint(joint)) {
                return 0;
            }
            switch (what) {
                case 0:
                    return places[0][joint];
                case 1:
                    return places[1][joint];
                case 2:
                    return isFixed(joint) ? 1 : 0;
                case 3:
                    return loads[0][joint];
                case 4:
                    return loads[1][joint];
                default:
                    return 0;
            }
        }

        int ofMember(int member, int what) {
            if (!hasMember(member)) {
                return 0;
            }
            switch (what) {
                case 10:
                    return from[member];
                case 11:
                    return to[member];
                case 12:
                    return sorts[member];
                case 13:
                    return pulls[member];
                default:
                    return 0;
            }
        }
    }

    /** A whole number in parts of nine digits, as the bench has to tell them so, with room for what it will meet. */
    private static final class Whole {
        final int[] parts;
        // 0 for the number 0 alone, which is not below.
        int size;
        boolean below;

        Whole(int room) {
            parts = new int[Math.max(1, room)];
        }

        int sign() {
            if (size == 0) {
                return 0;
            }
            return below ? -1 : 1;
        }

        int partAt(int i) {
            return i >= 0 && i < size ? parts[i] : 0;
        }

        boolean isOne() {
            return size == 1 && parts[0] == 1;
        }

        void clear() {
            size = 0;
            below = false;
        }

        /** For numbers that are one part long. */
        void become(int v) {
            parts[0] = Math.abs(v);
            size = v == 0 ? 0 : 1;
            below = v < 0;
        }

        void become(Whole other) {
            size = Math.min(other.size, parts.length);
            below = other.below;
            System.arraycopy(other.parts, 0, parts, 0, size);
        }

        void turn() {
            below = size > 0 && !below;
        }

        private int fit(int length) {
            return length < parts.length ? length : parts.length;
        }

        void trim(int length) {
            // What fit answers, written out: trim already stands at the end of the longest chain of calls.
            size = length < parts.length ? length : parts.length;
            for (int i = size - 1; i >= 0 && parts[i] == 0; i--) {
                size = i;
            }
            below = below && size > 0;
        }

        /** Neither a nor b may be this number. */
        void becomeProduct(Whole a, Whole b) {
            int length = fit(a.size + b.size);
            Arrays.fill(parts, 0, length, 0);
            for (int i = 0; i < a.size; i++) {
                long carry = 0;
                for (int j = 0; j < b.size && i + j < length; j++) {
                    long sum = parts[i + j] + carry + (long) a.parts[i] * b.parts[j];
                    parts[i + j] = (int) (sum % BASE);
                    carry = sum / BASE;
                }
                if (i + b.size < length) {
                    parts[i + b.size] = (int) carry;
                }
            }
            below = a.below != b.below;
            trim(length);
        }

        /** Adds another number, or takes it away. */
        void join(Whole other, boolean away) {
            boolean otherBelow = other.below != away;
            int way = below == otherBelow ? 1 : -1;
            boolean otherLeads = compareSize(other) < 0;
            Whole larger = otherLeads ? other : this;
            Whole smaller = otherLeads ? this : other;
            int length = fit(larger.size + 1);
            int carry = 0;
            for (int i = 0; i < length; i++) {
                int sum = larger.partAt(i) + way * smaller.partAt(i) + carry;
                carry = sum < 0 ? -1 : sum / BASE;
                parts[i] = sum - carry * BASE;
            }
            below = otherLeads ? otherBelow : below;
            trim(length);
        }

        /** Compares without signs. */
        int compareSize(Whole other) {
            if (size != other.size) {
                return size - other.size;
            }
            for (int i = size - 1; i >= 0; i--) {
                if (parts[i] != other.parts[i]) {
                    return parts[i] - other.parts[i];
                }
            }
            return 0;
        }

        void scale(int by) {
            int length = fit(size + 1);
            long carry = 0;
            for (int i = 0; i < length; i++) {
                long product = (long) partAt(i) * by + carry;
                parts[i] = (int) (product % BASE);
                carry = product / BASE;
            }
            trim(length);
        }

        /** Divides by a number above 0 that is one part long, and answers what is over, without sign. */
        int shrink(int by) {
            long rest = 0;
            for (int i = size - 1; i >= 0 && by > 0; i--) {
                long here = rest * BASE + parts[i];
                parts[i] = (int) (here / by);
                rest = here % by;
            }
            trim(size);
            return (int) rest;
        }
    }

    /** Long division and what rests on it, with numbers of its own to work in. */
    private static final class Divider {
        // Far above what numbers of a cell's size can need, some five steps a digit.
        private static final int MOST_STEPS = 2000;

        final Whole quotient = new Whole(ROOM);
        private final Whole scaled = new Whole(ROOM);
        private final Whole one = new Whole(ROOM);
        private final Whole two = new Whole(ROOM);

        /** Leaves the quotient in its place, and what is over, whose sign is free, in rest. Does not divide by 0. */
        void divide(Whole rest, Whole by) {
            quotient.clear();
            if (by.size == 0 || rest.compareSize(by) < 0) {
                return;
            }
            boolean below = rest.below != by.below;
            if (by.size == 1) {
                quotient.become(rest);
                rest.become(quotient.shrink(by.parts[0]));
                quotient.below = below;
                return;
            }
            // Only if the divisor's first part is at least half of BASE, a digit that is guessed from the first
            // parts is at most two too high: so both are stretched.
            int stretch = BASE / (by.parts[by.size - 1] + 1);
            scaled.become(by);
            scaled.scale(stretch);
            rest.scale(stretch);
            int length = Math.min(rest.size, rest.parts.length - 1);
            rest.parts[length] = 0;
            int digits = length - scaled.size + 1;
            for (int at = digits - 1; at >= 0; at--) {
                quotient.parts[at] = takeDigit(rest.parts, at);
            }
            quotient.trim(digits);
            quotient.below = below;
            rest.trim(length);
            rest.shrink(stretch);
        }

        private int takeDigit(int[] rest, int at) {
            int length = scaled.size;
            int first = at + length;
            if (length < 1 || scaled.parts[length - 1] < 1 || first >= rest.length) {
                return 0;
            }
            long head = (long) rest[first] * BASE + rest[first - 1];
            long guess = Math.min(head / scaled.parts[length - 1], BASE - 1);
            long borrow = 0;
            for (int i = 0; i < length; i++) {
                long gap = rest[at + i] - guess * scaled.parts[i] - borrow;
                borrow = gap < 0 ? (BASE - 1 - gap) / BASE : 0;
                rest[at + i] = (int) (gap + borrow * BASE);
            }
            rest[first] -= (int) borrow;
            for (int tries = 0; tries < 2 && rest[first] < 0; tries++) {
                giveBack(rest, at);
                guess--;
            }
            return (int) guess;
        }

        private void giveBack(int[] rest, int at) {
            int carry = 0;
            for (int i = 0; i < scaled.size; i++) {
                int sum = rest[at + i] + scaled.parts[i] + carry;
                carry = sum >= BASE ? 1 : 0;
                rest[at + i] = sum - carry * BASE;
            }
            rest[at + scaled.size] += carry;
        }

        /** The greatest number that divides both; it stays good until the next call. */
        Whole commonOf(Whole a, Whole b) {
            one.become(a);
            two.become(b);
            Whole larger = one;
            Whole smaller = two;
            for (int step = 0; step < MOST_STEPS && smaller.size > 0; step++) {
                divide(larger, smaller);
                Whole rest = larger;
                larger = smaller;
                smaller = rest;
            }
            larger.below = false;
            return larger;
        }
    }

    /** A fraction in lowest terms, its bottom above 0. */
    private static final class Fraction {
        final Whole top = new Whole(ROOM);
        final Whole bottom = new Whole(ROOM);
        private final Whole work = new Whole(ROOM);

        Fraction() {
            bottom.become(1);
        }

        void become(int v) {
            top.become(v);
            bottom.become(1);
        }

        void become(Whole newTop, Whole newBottom, Divider divider) {
            top.become(newTop);
            bottom.become(newBottom);
            if (bottom.below) {
                top.turn();
                bottom.turn();
            }
            Whole common = divider.commonOf(top, bottom);
            if (!common.isOne()) {
                lower(top, common, divider);
                lower(bottom, common, divider);
            }
        }

        private void lower(Whole number, Whole common, Divider divider) {
            work.become(number);
            divider.divide(work, common);
            number.become(divider.quotient);
        }
    }

    /** Numbers to work in that all grids share, as no two of them are reduced at once. */
    private static final class Desk {
        final Divider divider = new Divider();
        final Whole pivot = new Whole(ROOM);
        final Whole factor = new Whole(ROOM);
        final Whole here = new Whole(ROOM);
        final Whole above = new Whole(ROOM);
        final Whole product = new Whole(ROOM);
        final Whole other = new Whole(ROOM);
    }

    /** A table of whole numbers, and its reduction to equations that are each solved for one column. */
    private static final class Grid {
        private final int height;
        private final int width;
        private final int cell;
        // One array for the parts of all cells: an object for each cell would cost many times as much room.
        private final int[] parts;
        // Of each cell, below 0 where its number is.
        private final int[] sizes;
        private final Desk desk;
        private int rows;
        private int unknowns;
        private int columns;
        private int rank;
        // Of each column: the row that is solved for it, or NONE.
        final int[] rowOf;
        // What all solved rows have at their own columns.
        final Whole bottom = new Whole(ROOM);
        boolean leadsAbove;

        Grid(int height, int width, int cell, Desk desk) {
            this.height = height;
            this.width = width;
            this.cell = cell;
            this.desk = desk;
            parts = new int[height * width * cell];
            sizes = new int[height * width];
            rowOf = new int[width];
        }

        /** The last columns, as many as told, are right sides: no row is solved for them. */
        void begin(int rowCount, int unknownCount, int sides) {
            rows = Math.min(rowCount, height);
            columns = Math.min(unknownCount + sides, width);
            unknowns = Math.min(unknownCount, columns);
            Arrays.fill(sizes, 0);
        }

        private boolean holds(int r, int c) {
            return r >= 0 && r < rows && c >= 0 && c < columns;
        }

        void fetch(Whole into, int r, int c) {
            into.clear();
            if (!holds(r, c)) {
                return;
            }
            int at = r * width + c;
            into.size = Math.min(Math.abs(sizes[at]), into.parts.length);
            into.below = sizes[at] < 0;
            System.arraycopy(parts, at * cell, into.parts, 0, into.size);
        }

        void store(int r, int c, Whole number) {
            if (!holds(r, c)) {
                return;
            }
            int at = r * width + c;
            int size = Math.min(number.size, cell);
            sizes[at] = number.below ? -size : size;
            System.arraycopy(number.parts, 0, parts, at * cell, size);
        }

        /**
         * Adds to what a grid begins with, which is never more than one part long. Does nothing outside of the grid:
         * fixed joints have no rows and columns.
         */
        void add(int r, int c, int v) {
            if (holds(r, c)) {
                int at = r * width + c;
                int sum = sizes[at] * parts[at * cell] + v;
                sizes[at] = Integer.signum(sum);
                parts[at * cell] = Math.abs(sum);
            }
        }

        // Bareiss's way: each step divides by the pivot ahead of it, which leaves nothing over, so that cells stay as
        // small as minors are.
        void reduce() {
            rank = 0;
            bottom.become(1);
            leadsAbove = true;
            for (int c = 0; c < unknowns; c++) {
                int found = firstRowWith(c);
                rowOf[c] = found == NONE ? NONE : rank;
                fetch(desk.pivot, found, c);
                // Pivots found in place are the minors at the upper left corner.
                leadsAbove = leadsAbove && found == rank && desk.pivot.sign() > 0;
                if (found != NONE) {
                    swapRows(found, rank);
                    for (int r = 0; r < rows; r++) {
                        clearCell(r, c);
                    }
                    bottom.become(desk.pivot);
                    rank++;
                }
            }
        }

        private int firstRowWith(int c) {
            for (int r = rank; r < rows; r++) {
                if (sizes[r * width + c] != 0) {
                    return r;
                }
            }
            return NONE;
        }

        private void swapRows(int a, int b) {
            for (int c = 0; c < columns && a != b; c++) {
                fetch(desk.here, a, c);
                fetch(desk.above, b, c);
                store(a, c, desk.above);
                store(b, c, desk.here);
            }
        }

        private void clearCell(int r, int cleared) {
            fetch(desk.factor, r, cleared);
            for (int c = 0; c < columns && r != rank; c++) {
                fetch(desk.here, r, c);
                fetch(desk.above, rank, c);
                if (desk.here.size > 0 || desk.above.size > 0 && desk.factor.size > 0) {
                    desk.product.becomeProduct(desk.pivot, desk.here);
                    desk.other.becomeProduct(desk.factor, desk.above);
                    desk.product.join(desk.other, true);
                    desk.divider.divide(desk.product, bottom);
                    store(r, c, desk.divider.quotient);
                }
            }
        }

        int freeColumns() {
            return unknowns - rank;
        }

        private int freeColumn(int i) {
            int seen = 0;
            for (int c = 0; c < unknowns; c++) {
                if (rowOf[c] == NONE) {
                    if (seen == i) {
                        return c;
                    }
                    seen++;
                }
            }
            return NONE;
        }

        /** Of the i-th solution without right sides, its number at a column, times the bottom. */
        void fetchFree(Whole into, int i, int c) {
            into.clear();
            int free = freeColumn(i);
            if (free == NONE || c < 0 || c >= unknowns) {
                return;
            }
            if (c == free) {
                into.become(bottom);
            } else if (rowOf[c] != NONE) {
                fetch(into, rowOf[c], free);
                into.turn();
            }
        }

        /** Whether the rows that are solved for no column ask nothing of a right side. */
        boolean isSolved(int side) {
            for (int r = rank; r < rows; r++) {
                if (holds(r, side) && sizes[r * width + side] != 0) {
                    return false;
                }
            }
            return true;
        }

        /** Of the solution that is 0 at all free columns, its number at a column, times the bottom. */
        void fetchSolution(Whole into, int c, int side) {
            into.clear();
            if (c >= 0 && c < unknowns) {
                fetch(into, rowOf[c], side);
            }
        }
    }

    /** Three whole numbers. */
    private static final class Triple {
        final Whole[] at = new Whole[MOST_JUDGED];

        Triple(int room) {
            for (int i = 0; i < MOST_JUDGED; i++) {
                at[i] = new Whole(room);
            }
        }

        boolean isNought() {
            boolean nought = true;
            for (int i = 0; i < MOST_JUDGED; i++) {
                nought = nought && at[i].size == 0;
            }
            return nought;
        }

        /** What stands square on both; neither of them may be this triple. */
        void becomeCross(Triple a, Triple b, Whole work) {
            for (int i = 0; i < MOST_JUDGED; i++) {
                int next = (i + 1) % MOST_JUDGED;
                int last = (i + 2) % MOST_JUDGED;
                at[i].becomeProduct(a.at[next], b.at[last]);
                work.becomeProduct(a.at[last], b.at[next]);
                at[i].join(work, true);
            }
        }
    }

    /** Whether some mixture of at most three stresses has the right sign in every cable and strut. */
    private static final class Cone {
        // Of each cable and strut, what the stresses have at it, as it wants them above 0; noughts of a bar.
        private final Triple[] asked = new Triple[MOST_MEMBERS];
        private final Triple normal = new Triple(ROOM);
        private final Triple ray = new Triple(ROOM);
        private final Whole sum = new Whole(ROOM);
        private final Whole work = new Whole(ROOM);
        private final int[] signs = new int[MOST_MEMBERS];
        private final boolean[] reached = new boolean[MOST_MEMBERS];
        private int members;

        Cone() {
            for (int m = 0; m < MOST_MEMBERS; m++) {
                asked[m] = new Triple(CELL);
            }
        }

        // The mixtures whose products with what is asked are nowhere below 0 are a cone. Where each of the asking has
        // a product above 0 with some edge of it, the sum of those edges is what is sought. An edge stands square on
        // two of the asking; or, if they all lie in a plane, on one of them in that plane; or, if they all lie in a
        // line, in that line. So there are no other rays to be tried.
        boolean isOpen(Net net, Grid forces) {
            begin(net, forces);
            boolean planeTried = false;
            for (int a = 0; a < members && !allReached(); a++) {
                tryRay(asked[a]);
                for (int b = 0; b < a; b++) {
                    normal.becomeCross(asked[a], asked[b], work);
                    tryRay(normal);
                    if (!planeTried && !normal.isNought()) {
                        tryPlane();
                        planeTried = true;
                    }
                }
            }
            return allReached();
        }

        private void begin(Net net, Grid forces) {
            members = net.members;
            for (int m = 0; m < members; m++) {
                boolean asks = net.sorts[m] == CABLE || net.sorts[m] == STRUT;
                reached[m] = !asks;
                for (int i = 0; i < MOST_JUDGED; i++) {
                    forces.fetchFree(asked[m].at[i], asks ? i : NONE, m);
                    if (net.sorts[m] == STRUT) {
                        asked[m].at[i].turn();
                    }
                }
            }
        }

        private void tryPlane() {
            for (int m = 0; m < members; m++) {
                ray.becomeCross(normal, asked[m], work);
                tryRay(ray);
            }
        }

        private boolean allReached() {
            boolean all = true;
            for (int m = 0; m < members; m++) {
                all = all && reached[m];
            }
            return all;
        }

        // The ray and the one against it are tried at once; neither is in the cone if both signs are met.
        private void tryRay(Triple tried) {
            if (tried.isNought()) {
                return;
            }
            int side = 0;
            for (int m = 0; m < members; m++) {
                signs[m] = signOfProduct(asked[m], tried);
                if (signs[m] * side < 0) {
                    return;
                }
                side = signs[m] == 0 ? side : signs[m];
            }
            for (int m = 0; m < members; m++) {
                reached[m] = reached[m] || signs[m] != 0;
            }
        }

        private int signOfProduct(Triple a, Triple b) {
            sum.clear();
            for (int i = 0; i < MOST_JUDGED; i++) {
                work.becomeProduct(a.at[i], b.at[i]);
                sum.join(work, false);
            }
            return sum.sign();
        }
    }

    /** Whether what the told pulls do against the ways of a net is above 0 for each of their mixtures. */
    private static final class Form {
        private final Grid table;
        private final Whole sum = new Whole(ROOM);
        private final Whole product = new Whole(ROOM);
        private final Whole one = new Whole(ROOM);
        private final Whole two = new Whole(ROOM);
        private final Whole strength = new Whole(ROOM);

        Form(Desk desk) {
            table = new Grid(MOST_JUDGED, MOST_JUDGED, FORM_CELL, desk);
        }

        // Sylvester's test: all minors at the upper left corner are above 0.
        boolean isAboveNought(Net net, Grid moves) {
            int ways = moves.freeColumns();
            table.begin(ways, ways, 0);
            for (int i = 0; i < ways; i++) {
                for (int j = 0; j <= i; j++) {
                    addUp(net, moves, i, j);
                    table.store(i, j, sum);
                    table.store(j, i, sum);
                }
            }
            table.reduce();
            return table.leadsAbove;
        }

        // The ways come with the grid's bottom as a factor: its square does not change a sign.
        private void addUp(Net net, Grid moves, int i, int j) {
            sum.clear();
            for (int m = 0; m < net.members; m++) {
                strength.become(net.pulls[m]);
                for (int axis = 0; axis < 2 && strength.size > 0; axis++) {
                    int from = net.moveOf(net.from[m], axis);
                    int to = net.moveOf(net.to[m], axis);
                    fetchGap(one, moves, i, from, to);
                    fetchGap(two, moves, j, from, to);
                    product.becomeProduct(one, two);
                    one.becomeProduct(product, strength);
                    sum.join(one, false);
                }
            }
        }

        private void fetchGap(Whole into, Grid moves, int i, int from, int to) {
            moves.fetchFree(into, i, from);
            moves.fetchFree(product, i, to);
            into.join(product, true);
        }
    }
}
