import java.util.Arrays;

/**
 * A parliament in which the seats hold the opinions and the members run for them.
 * The words in capitals are those of the document; its promises say what each call answers.
 */
public final class ChairViews {
    private static final int LOW = -1000000000;
    private static final int BEYOND = LOW - 1;
    private static final int NONE = LOW - 2;
    private static final int STATE = LOW - 3;
    private static final int FULL = LOW - 4;
    private static final int KIND = LOW - 5;
    private static final int ERRORS = 5;

    private static final int BILLS = 8;
    private static final int ALL_BILLS = 255;
    private static final int MOST_CHAIRS = 6;
    /** 6 over 3: of no other size are there more sets of CHAIRS. */
    private static final int MOST_SETS_OF_ONE_SIZE = 20;
    private static final int KINDS = 7;
    private static final int MOST_MEMBERS = 6;
    private static final int MOST_SPEED = 99;
    private static final int FIRST_SPEED = 10;
    private static final int STANDING = -1;
    private static final int FOR = 1;
    private static final int AGAINST = -1;

    private static final int MOST_SITTING = 9999;
    private static final int MOST_SITTINGS = 60;
    private static final int MOST_LOOSE = 40;
    private static final int MOST_MOVERS = 2;

    private static final int USES = 2;
    private static final int WEIGHT_USE = 0;
    private static final String WEIGHT_NAMES = "kcs";
    private static final String ZEAL_NAMES = "hnv";
    private static final int MOST_BYTES = 50;
    private static final int MOST_FED = 8;
    private static final int FAULT_BASE = -10;

    private static final int SHEETS = 4;
    private static final int MOST_NUMBERS = 40;
    private static final int MISSING = 0;
    private static final int INT_BITS = 32;
    private static final int MOST_TRACED = 40;
    private static final int MOST_WAITING = 20;
    private static final int VOICES = 4;

    /** The KIND above each KIND; nothing is above CHAIR. */
    private static final int[] KIND_ABOVE = {-1, 0, 0, 0, 1, 2, 3};

    private final Row trace = new Row(MOST_TRACED, INT_BITS);
    private final Chair[] kinds = {
        new Chair(trace), new Wet(trace), new Glued(trace), new Repaired(trace),
        new Soaked(trace), new Bench(trace), new Crown(trace)
    };
    private final House house = new House(kinds);
    /** Where what is only thought happens, so that no call has to make a house of its own. */
    private final House thought = new House(kinds);
    private final House kept = new House(kinds);
    private final Reader reader = new Reader();
    private final Row[] sheets = {
        new Row(MOST_NUMBERS, MISSING), new Row(MOST_NUMBERS, MISSING),
        new Row(MOST_NUMBERS, MISSING), new Row(MOST_NUMBERS, MISSING)
    };
    /** The unlike numbers that PARTS has found. */
    private final Row unlike = new Row(MOST_SETS_OF_ONE_SIZE, INT_BITS);
    private final int[] errorsTold = new int[ERRORS + 1];
    private int imagesMade;

    public ChairViews() {
    }

    // ---- chairs, members

    public int chair(int km, int views) {
        if (!isKindAndNumber(km) || !isSetOfBills(views)) {
            return error(BEYOND);
        }
        if (house.chairs >= MOST_CHAIRS) {
            return error(FULL);
        }
        return house.addChair(km, views);
    }

    public int ofChair(int chair, int what) {
        if (!isChair(chair)) {
            return error(BEYOND);
        }
        switch (what) {
            case 0: return house.kind[chair];
            case 1: return house.m[chair];
            case 2: return house.views[chair];
            case 3: return house.cushion[chair];
            case 4: return house.sitterOf(chair);
            case 5: return house.weigh(chair);
            default: return error(BEYOND);
        }
    }

    public int stuff(int chair, int what, int v) {
        if (!isChair(chair) || !isWithin(what, 0, 1) || !isSetOfBills(v)) {
            return error(BEYOND);
        }
        int[] sets = what == 0 ? house.views : house.cushion;
        int before = sets[chair];
        sets[chair] = v;
        return before;
    }

    public int become(int chair, int km) {
        if (!isChair(chair) || !isKindAndNumber(km)) {
            return error(BEYOND);
        }
        int before = house.kind[chair];
        house.kind[chair] = km / 10;
        house.m[chair] = km % 10;
        return before;
    }

    public int as(int chair, int kind) {
        if (!isChair(chair) || !isWithin(kind, 0, KINDS - 1)) {
            return error(BEYOND);
        }
        return isUnder(house.kind[chair], kind) ? house.m[chair] : error(KIND);
    }

    public int member(int hobby) {
        if (!isBill(hobby)) {
            return error(BEYOND);
        }
        if (house.members >= MOST_MEMBERS) {
            return error(FULL);
        }
        return house.addMember(hobby);
    }

    public int ofMember(int member, int what) {
        if (!isMember(member)) {
            return error(BEYOND);
        }
        switch (what) {
            case 0: return house.speed[member];
            case 1: return house.hobby[member];
            case 2: return house.at[member];
            default: return error(BEYOND);
        }
    }

    public int change(int member, int what, int v) {
        if (!isMember(member) || !isWithin(what, 0, 1)) {
            return error(BEYOND);
        }
        if (what == 0 ? !isSpeed(v) : !isBill(v)) {
            return error(BEYOND);
        }
        int[] traits = what == 0 ? house.speed : house.hobby;
        int before = traits[member];
        traits[member] = v;
        return before;
    }

    public int sit(int member, int chair) {
        if (!isMember(member) || (chair != STANDING && !isChair(chair))) {
            return error(BEYOND);
        }
        int before = house.at[member];
        if (chair != STANDING && chair != before && house.sitterOf(chair) >= 0) {
            return error(STATE);
        }
        house.at[member] = chair;
        return before;
    }

    // ---- texts

    public int feed(long word, int n) {
        if (!isWithin(n, 1, MOST_FED)) {
            return error(BEYOND);
        }
        if (house.tape.length + n > MOST_BYTES) {
            return error(FULL);
        }
        for (int i = 0; i < n; i++) {
            house.tape.add((int) (word >>> (8 * i)) & 255);
        }
        return house.tape.length;
    }

    public int text(int use) {
        if (!isUse(use)) {
            return error(BEYOND);
        }
        int fault = reader.faultOf(house.tape, use == WEIGHT_USE ? WEIGHT_NAMES : ZEAL_NAMES);
        house.tape.clear();
        if (fault != Reader.NO_FAULT) {
            return FAULT_BASE - fault;
        }
        textOf(use).steps.copyFrom(reader.steps);
        return 1;
    }

    public int law(int use, int a, int b, int c) {
        return isUse(use) ? textOf(use).gives(a, b, c) : error(BEYOND);
    }

    // ---- votes, sittings

    public int vote(int bill, int what) {
        if (!isBill(bill)) {
            return error(BEYOND);
        }
        house.weighAll();
        switch (what) {
            case 0: return house.weightSaying(FOR, bill);
            case 1: return house.weightSaying(AGAINST, bill);
            case 2: return house.margin(bill, house.taken()) > 0 ? 1 : 0;
            default: return error(BEYOND);
        }
    }

    public int says(int chair, int bill) {
        if (!isChair(chair) || !isBill(bill)) {
            return error(BEYOND);
        }
        return house.opinionOf(chair, bill, house.taken()) + 1;
    }

    public int run() {
        house.runAll();
        return Integer.bitCount(house.taken());
    }

    public int sittings(int n) {
        if (!isWithin(n, 1, MOST_SITTINGS)) {
            return error(BEYOND);
        }
        if (house.sitting + n > MOST_SITTING) {
            return error(STATE);
        }
        for (int i = 0; i < n; i++) {
            house.holdSitting();
        }
        return house.laws;
    }

    public int loose(int n) {
        if (!isWithin(n, 1, MOST_LOOSE)) {
            return error(BEYOND);
        }
        if (house.sitting + n > MOST_SITTING) {
            return error(STATE);
        }
        for (int i = 0; i < n; i++) {
            house.drawSpeed();
            house.holdSitting();
        }
        return house.laws;
    }

    // ---- what would be

    public int then(int n, int what) {
        if (!isWithin(n, 0, MOST_SITTINGS) || (what != -1 && !isMember(what))) {
            return error(BEYOND);
        }
        thought.copyFrom(house);
        for (int i = 0; i < n; i++) {
            thought.holdSitting();
        }
        return what == -1 ? thought.laws : thought.at[what];
    }

    public int when(int bill) {
        if (!isBill(bill)) {
            return error(BEYOND);
        }
        thought.copyFrom(house);
        for (int behind = 0; behind <= MOST_SITTINGS; behind++) {
            if (isIn(thought.laws, bill)) {
                return behind;
            }
            thought.holdSitting();
        }
        return error(NONE);
    }

    public int turning(int bill) {
        if (!isBill(bill)) {
            return error(BEYOND);
        }
        thought.copyFrom(house);
        boolean passesNow = passesTurned(0, bill);
        int best = 0;
        for (int set = 1; set < 1 << house.chairs; set++) {
            boolean fewer = best == 0 || Integer.bitCount(set) < Integer.bitCount(best);
            if (fewer && passesTurned(set, bill) != passesNow) {
                best = set;
            }
        }
        return best == 0 ? error(NONE) : best;
    }

    public int moves(int bill) {
        if (!isBill(bill)) {
            return error(BEYOND);
        }
        house.weighAll();
        int taken = house.taken();
        int least = MOST_MOVERS + 1;
        for (int set = 0; set < 1 << house.chairs; set++) {
            int needed = moversBetween(taken, set);
            boolean enough = Integer.bitCount(set) <= house.members;
            if (enough && needed < least && house.margin(bill, set) > 0) {
                least = needed;
            }
        }
        return least > MOST_MOVERS ? error(NONE) : least;
    }

    public int power(int chair) {
        if (!isChair(chair)) {
            return error(BEYOND);
        }
        int taken = house.taken();
        if (!isIn(taken, chair)) {
            return error(STATE);
        }
        house.weighAll();
        int all = house.weightOf(taken);
        int own = house.weight[chair];
        int others = taken & ~(1 << chair);
        int turned = 0;
        for (int set = 0; set < 1 << house.chairs; set++) {
            int without = house.weightOf(set);
            if ((set & ~others) == 0 && 2 * without <= all && 2 * (without + own) > all) {
                turned++;
            }
        }
        return turned;
    }

    public int fits(int sheet, int what) {
        if (!isSheet(sheet) || !isWithin(what, 0, 1)) {
            return error(BEYOND);
        }
        Row went = sheets[sheet];
        if (went.bits == MISSING || went.length > BILLS) {
            return error(NONE);
        }
        house.weighAll();
        int size = Integer.bitCount(house.taken());
        int fitting = 0;
        for (int set = 0; set < 1 << house.chairs; set++) {
            if (Integer.bitCount(set) == size && allWentSo(went, set)) {
                if (what == 1) {
                    return set;
                }
                fitting++;
            }
        }
        return what == 1 ? error(NONE) : fitting;
    }

    public int parts(int what) {
        if (!isWithin(what, 0, 1)) {
            return error(BEYOND);
        }
        house.weighAll();
        int size = Integer.bitCount(house.taken());
        int bestBill = 0;
        int most = 0;
        for (int bill = 0; bill < BILLS; bill++) {
            int found = unlikeMargins(bill, size);
            if (found > most) {
                most = found;
                bestBill = bill;
            }
        }
        return what == 0 ? bestBill : most;
    }

    public int faster(int member, int chair) {
        if (!isMember(member) || !isChair(chair)) {
            return error(BEYOND);
        }
        thought.copyFrom(house);
        for (int speed = 0; speed <= MOST_SPEED; speed++) {
            thought.speed[member] = speed;
            thought.runAll();
            if (thought.at[member] == chair) {
                return speed;
            }
        }
        return error(NONE);
    }

    public int seatless() {
        thought.copyFrom(house);
        thought.runAll();
        int standing = 0;
        for (int member = 0; member < thought.members; member++) {
            if (thought.at[member] == STANDING) {
                standing |= 1 << member;
            }
        }
        return standing;
    }

    // ---- draws, voices, sheets, images, what is told

    public int seed(int v) {
        int before = house.z;
        house.z = v;
        return before;
    }

    public int voice(int chair, int act, int x) {
        if (!isChair(chair) || !isWithin(act, 0, VOICES - 1)) {
            return error(BEYOND);
        }
        trace.clear();
        Chair kind = house.kindOf(chair);
        int m = house.m[chair];
        switch (act) {
            case 0: return kind.saysVoice(chair, m, x);
            case 1: return kind.weighsVoice(chair, m, x);
            case 2: return kind.creaksVoice(chair, m, x);
            default: return kind.tellsVoice(chair, m, x);
        }
    }

    public int trace(int i) {
        return trace.has(i) ? trace.get(i) : error(NONE);
    }

    public int sheet(int sheet, int bits, int n) {
        if (!isSheet(sheet) || !isBits(bits)) {
            return error(BEYOND);
        }
        if (bits != MISSING && n < 0) {
            return error(STATE);
        }
        if (bits != MISSING && n > MOST_NUMBERS) {
            return error(BEYOND);
        }
        sheets[sheet].shape(bits, bits == MISSING ? 0 : n);
        return 1;
    }

    public int put(int sheet, int i, int v) {
        if (!isSheet(sheet)) {
            return error(BEYOND);
        }
        if (isMissing(sheet)) {
            return error(NONE);
        }
        if (!sheets[sheet].has(i)) {
            return error(BEYOND);
        }
        sheets[sheet].set(i, v);
        return 1;
    }

    public int move(int sheet, int i, int other, int j, int n) {
        if (!isSheet(sheet) || !isSheet(other)) {
            return error(BEYOND);
        }
        if (isMissing(sheet) || isMissing(other)) {
            return error(NONE);
        }
        Row from = sheets[sheet];
        Row to = sheets[other];
        if (from.bits != to.bits) {
            return error(KIND);
        }
        if (!from.spans(i, n) || !to.spans(j, n)) {
            return error(BEYOND);
        }
        to.take(from, i, j, n);
        return n;
    }

    public int speeds(int sheet) {
        if (!isSheet(sheet)) {
            return error(BEYOND);
        }
        if (isMissing(sheet)) {
            return error(NONE);
        }
        Row row = sheets[sheet];
        int most = Math.min(row.length, house.members);
        for (int i = 0; i < most; i++) {
            if (!isSpeed(row.get(i))) {
                return i;
            }
            house.speed[i] = row.get(i);
        }
        return most;
    }

    public int judge(int sheet) {
        if (!isSheet(sheet)) {
            return error(BEYOND);
        }
        if (isMissing(sheet)) {
            return error(NONE);
        }
        Row row = sheets[sheet];
        int both = Math.min(row.length, house.members);
        for (int i = 0; i < both; i++) {
            if (row.get(i) != house.at[i]) {
                return i;
            }
        }
        return row.length == house.members ? -1 : both;
    }

    public int image() {
        kept.copyFrom(house);
        imagesMade++;
        return imagesMade;
    }

    public int restore() {
        if (imagesMade == 0) {
            return error(NONE);
        }
        house.copyFrom(kept);
        return house.sitting;
    }

    public int tell(int v) {
        if (house.waiting.length >= MOST_WAITING) {
            return error(FULL);
        }
        house.waiting.add(v);
        return house.waiting.length;
    }

    public int check() {
        thought.copyFrom(house);
        house.waiting.clear();
        for (int i = 0; i < thought.waiting.length; i++) {
            thought.holdSitting();
            if (thought.laws != thought.waiting.get(i)) {
                return 1 + i;
            }
        }
        return 0;
    }

    public int count(int what) {
        switch (what) {
            case 0: return house.chairs;
            case 1: return house.members;
            case 2: return house.sitting;
            case 3: return house.laws;
            case 4: return Integer.bitCount(house.taken());
            case 5:
                house.weighAll();
                return house.weightOf(house.taken());
            case 6: return house.tape.length;
            case 7: return house.waiting.length;
            case 8: return trace.length;
            case 9: return house.z;
            default: return error(BEYOND);
        }
    }

    public int told(int k) {
        return isWithin(k, 1, ERRORS) ? errorsTold[k] : error(BEYOND);
    }

    // ---- what the calls share

    /** Counted here and not by the answer, since some calls may answer any number. */
    private int error(int error) {
        int k = LOW - error;
        if (isWithin(k, 1, ERRORS)) {
            errorsTold[k]++;
        }
        return error;
    }

    private static boolean isWithin(int v, int least, int most) {
        return v >= least && v <= most;
    }

    private static boolean isBill(int v) {
        return isWithin(v, 0, BILLS - 1);
    }

    private static boolean isSetOfBills(int v) {
        return isWithin(v, 0, ALL_BILLS);
    }

    private static boolean isSpeed(int v) {
        return isWithin(v, 0, MOST_SPEED);
    }

    private static boolean isKindAndNumber(int km) {
        return isWithin(km, 0, KINDS * 10 - 1);
    }

    private static boolean isUse(int use) {
        return isWithin(use, 0, USES - 1);
    }

    private static boolean isSheet(int sheet) {
        return isWithin(sheet, 0, SHEETS - 1);
    }

    private static boolean isBits(int bits) {
        return bits == MISSING || bits == 8 || bits == 16 || bits == INT_BITS;
    }

    private static boolean isIn(int set, int i) {
        return (set >> i & 1) == 1;
    }

    private boolean isChair(int chair) {
        return isWithin(chair, 0, house.chairs - 1);
    }

    private boolean isMember(int member) {
        return isWithin(member, 0, house.members - 1);
    }

    private boolean isMissing(int sheet) {
        return sheets[sheet].bits == MISSING;
    }

    private static boolean isUnder(int kind, int wanted) {
        int above = kind;
        for (int i = 0; i < KINDS && isWithin(above, 0, KINDS - 1); i++) {
            if (above == wanted) {
                return true;
            }
            above = KIND_ABOVE[above];
        }
        return false;
    }

    private Text textOf(int use) {
        return use == WEIGHT_USE ? house.weightText : house.zealText;
    }

    /** A CUSHION also counts in its CHAIR's WEIGHT, so all is weighed anew for each set. */
    private boolean passesTurned(int set, int bill) {
        turnCushions(set, bill);
        thought.weighAll();
        boolean passes = thought.margin(bill, thought.taken()) > 0;
        turnCushions(set, bill);
        return passes;
    }

    private void turnCushions(int set, int bill) {
        for (int chair = 0; chair < thought.chairs; chair++) {
            if (isIn(set, chair)) {
                thought.cushion[chair] ^= 1 << bill;
            }
        }
    }

    /**
     * Who sits where doesn't matter to a VOTE, only which CHAIRS are taken. Each one left and
     * each one filled wants a MEMBER who goes, and one who goes can do both.
     */
    private static int moversBetween(int taken, int set) {
        return Math.max(Integer.bitCount(taken & ~set), Integer.bitCount(set & ~taken));
    }

    private boolean allWentSo(Row went, int set) {
        for (int bill = 0; bill < went.length; bill++) {
            if (house.margin(bill, set) != went.get(bill)) {
                return false;
            }
        }
        return true;
    }

    private int unlikeMargins(int bill, int size) {
        unlike.clear();
        for (int set = 0; set < 1 << house.chairs; set++) {
            if (Integer.bitCount(set) == size) {
                unlike.addUnlessThere(house.margin(bill, set));
            }
        }
        return unlike.length;
    }

    /** All that an IMAGE keeps, and the rules by which it goes on. */
    static final class House {
        final Chair[] kinds;
        int chairs;
        final int[] kind = new int[MOST_CHAIRS];
        final int[] m = new int[MOST_CHAIRS];
        final int[] views = new int[MOST_CHAIRS];
        final int[] cushion = new int[MOST_CHAIRS];
        /** WEIGHTS as weighAll found them: no part of the state, to be found anew ahead of votes. */
        final int[] weight = new int[MOST_CHAIRS];
        int members;
        final int[] speed = new int[MOST_MEMBERS];
        final int[] hobby = new int[MOST_MEMBERS];
        final int[] at = new int[MOST_MEMBERS];
        final Text weightText = new Text(Text.FIRST_WEIGHT, 0, 99);
        final Text zealText = new Text(Text.FIRST_ZEAL, -99, 99);
        final Row tape = new Row(MOST_BYTES, INT_BITS);
        final Row waiting = new Row(MOST_WAITING, INT_BITS);
        int laws;
        int sitting;
        int z = 1;

        House(Chair[] kinds) {
            this.kinds = kinds;
        }

        void copyFrom(House other) {
            chairs = other.chairs;
            System.arraycopy(other.kind, 0, kind, 0, MOST_CHAIRS);
            System.arraycopy(other.m, 0, m, 0, MOST_CHAIRS);
            System.arraycopy(other.views, 0, views, 0, MOST_CHAIRS);
            System.arraycopy(other.cushion, 0, cushion, 0, MOST_CHAIRS);
            members = other.members;
            System.arraycopy(other.speed, 0, speed, 0, MOST_MEMBERS);
            System.arraycopy(other.hobby, 0, hobby, 0, MOST_MEMBERS);
            System.arraycopy(other.at, 0, at, 0, MOST_MEMBERS);
            weightText.steps.copyFrom(other.weightText.steps);
            zealText.steps.copyFrom(other.zealText.steps);
            tape.copyFrom(other.tape);
            waiting.copyFrom(other.waiting);
            laws = other.laws;
            sitting = other.sitting;
            z = other.z;
        }

        /** The caller has seen that there is room. */
        int addChair(int km, int itsViews) {
            int chair = chairs;
            kind[chair] = km / 10;
            m[chair] = km % 10;
            views[chair] = itsViews;
            cushion[chair] = 0;
            chairs++;
            return chair;
        }

        /** The caller has seen that there is room. */
        int addMember(int itsHobby) {
            int member = members;
            speed[member] = FIRST_SPEED;
            hobby[member] = itsHobby;
            at[member] = STANDING;
            members++;
            return member;
        }

        Chair kindOf(int chair) {
            return kinds[kind[chair]];
        }

        int sitterOf(int chair) {
            for (int member = 0; member < members; member++) {
                if (at[member] == chair) {
                    return member;
                }
            }
            return -1;
        }

        int taken() {
            int set = 0;
            for (int member = 0; member < members; member++) {
                if (at[member] != STANDING) {
                    set |= 1 << at[member];
                }
            }
            return set;
        }

        int nextTo(int chair) {
            return chair + 1 < chairs ? chair + 1 : 0;
        }

        boolean isFor(int chair, int bill) {
            return isIn(views[chair] ^ cushion[chair], bill);
        }

        int weigh(int chair) {
            int given = weightText.gives(
                Integer.bitCount(views[chair]), Integer.bitCount(cushion[chair]), sitting);
            return kindOf(chair).heft(given, m[chair]);
        }

        void weighAll() {
            for (int chair = 0; chair < chairs; chair++) {
                weight[chair] = weigh(chair);
            }
        }

        int weightOf(int set) {
            int sum = 0;
            for (int chair = 0; chair < chairs; chair++) {
                if (isIn(set, chair)) {
                    sum += weight[chair];
                }
            }
            return sum;
        }

        /** What a CHAIR SAYS, were the CHAIRS of a set the ones at which somebody is. */
        int opinionOf(int chair, int bill, int set) {
            return isIn(set, chair) ? kindOf(chair).opinion(this, chair, bill, set) : 0;
        }

        int weightSaying(int side, int bill) {
            int set = taken();
            int sum = 0;
            for (int chair = 0; chair < chairs; chair++) {
                if (opinionOf(chair, bill, set) == side) {
                    sum += weight[chair];
                }
            }
            return sum;
        }

        /** FOR less AGAINST, were the CHAIRS of a set the ones at which somebody is. */
        int margin(int bill, int set) {
            int sum = 0;
            for (int chair = 0; chair < chairs; chair++) {
                if (isIn(set, chair)) {
                    sum += kindOf(chair).opinion(this, chair, bill, set) * weight[chair];
                }
            }
            return sum;
        }

        /** All stand at first: no CHAIR is taken, whoever was AT it. */
        void runAll() {
            int ran = 0;
            int taken = 0;
            for (int i = 0; i < members; i++) {
                int member = fastestBut(ran);
                ran |= 1 << member;
                int chair = dearestTo(member, taken);
                at[member] = chair;
                if (chair != STANDING) {
                    taken |= 1 << chair;
                }
            }
        }

        /** Of those who haven't run; asked only while there is one. */
        private int fastestBut(int ran) {
            int best = 0;
            int bestSpeed = -1;
            for (int member = 0; member < members; member++) {
                if (!isIn(ran, member) && speed[member] > bestSpeed) {
                    best = member;
                    bestSpeed = speed[member];
                }
            }
            return best;
        }

        private int dearestTo(int member, int taken) {
            int best = STANDING;
            int bestZeal = 0;
            for (int chair = 0; chair < chairs; chair++) {
                if (!isIn(taken, chair)) {
                    int fond = isFor(chair, hobby[member]) ? 1 : 0;
                    int zeal = zealText.gives(fond, chair, speed[member]);
                    if (best == STANDING || zeal > bestZeal) {
                        best = chair;
                        bestZeal = zeal;
                    }
                }
            }
            return best;
        }

        void holdSitting() {
            runAll();
            weighAll();
            int set = taken();
            laws = 0;
            for (int bill = 0; bill < BILLS; bill++) {
                if (margin(bill, set) > 0) {
                    laws |= 1 << bill;
                }
            }
            for (int chair = 0; chair < chairs; chair++) {
                if (isIn(set, chair)) {
                    cushion[chair] &= cushion[chair] - 1;
                }
            }
            sitting++;
        }

        void drawSpeed() {
            if (members > 0) {
                int member = draw() % members;
                speed[member] = draw() % 100;
            }
        }

        private int draw() {
            z = z * 1103515245 + 12345;
            return z >>> 8;
        }
    }

    /**
     * KIND 0, and what the KINDS under it share. A KIND holds nothing of a CHAIR but tells how
     * its CHAIRS go, so that a CHAIR can become one of another KIND.
     */
    static class Chair {
        final Row trace;

        Chair(Row trace) {
            this.trace = trace;
        }

        /** What it SAYS, with the CHAIRS of a set (it among them) being those taken. */
        int opinion(House house, int chair, int bill, int set) {
            return house.isFor(chair, bill) ? FOR : AGAINST;
        }

        int heft(int given, int m) {
            return given;
        }

        int saysVoice(int n, int m, int x) {
            trace.add(10);
            return x + n;
        }

        int weighsVoice(int n, int m, int x) {
            trace.add(11);
            return saysVoice(n, m, x) * 2;
        }

        int creaksVoice(int n, int m, int x) {
            trace.add(12);
            return x - m;
        }

        int tellsVoice(int n, int m, int x) {
            trace.add(13);
            return weighsVoice(n, m, x) ^ creaksVoice(n, m, x);
        }
    }

    static class Wet extends Chair {
        Wet(Row trace) {
            super(trace);
        }

        @Override
        int opinion(House house, int chair, int bill, int set) {
            return bill == house.m[chair] ? 0 : super.opinion(house, chair, bill, set);
        }

        @Override
        int saysVoice(int n, int m, int x) {
            trace.add(20);
            return super.saysVoice(n, m, x) * 3;
        }
    }

    static class Glued extends Chair {
        Glued(Row trace) {
            super(trace);
        }

        /** The next one speaks as a CHAIR whatever its KIND, so glue never goes round. */
        @Override
        int opinion(House house, int chair, int bill, int set) {
            int next = house.nextTo(chair);
            return super.opinion(house, isIn(set, next) ? next : chair, bill, set);
        }

        @Override
        int weighsVoice(int n, int m, int x) {
            trace.add(30);
            return super.weighsVoice(n, m, x) - creaksVoice(n, m, 1);
        }
    }

    static class Repaired extends Chair {
        private static final int MANY_VIEWS = 4;

        Repaired(Row trace) {
            super(trace);
        }

        @Override
        int opinion(House house, int chair, int bill, int set) {
            boolean many = Integer.bitCount(house.views[chair]) >= MANY_VIEWS;
            return many ? FOR : super.opinion(house, chair, bill, set);
        }

        @Override
        int creaksVoice(int n, int m, int x) {
            trace.add(40);
            return -super.creaksVoice(n, m, x);
        }
    }

    static final class Soaked extends Wet {
        Soaked(Row trace) {
            super(trace);
        }

        @Override
        int opinion(House house, int chair, int bill, int set) {
            return 0;
        }

        @Override
        int tellsVoice(int n, int m, int x) {
            trace.add(50);
            return super.tellsVoice(n, m, x) - saysVoice(n, m, 2);
        }
    }

    static final class Bench extends Glued {
        Bench(Row trace) {
            super(trace);
        }

        @Override
        int heft(int given, int m) {
            return super.heft(given, m) + m / 3;
        }

        @Override
        int weighsVoice(int n, int m, int x) {
            trace.add(60);
            return super.weighsVoice(n, m, x + 1);
        }
    }

    static final class Crown extends Repaired {
        Crown(Row trace) {
            super(trace);
        }

        @Override
        int opinion(House house, int chair, int bill, int set) {
            return -super.opinion(house, chair, bill, set);
        }

        @Override
        int heft(int given, int m) {
            return super.heft(given, m) * 2;
        }

        @Override
        int creaksVoice(int n, int m, int x) {
            trace.add(70);
            return super.creaksVoice(n, m, x) ^ n;
        }

        @Override
        int tellsVoice(int n, int m, int x) {
            trace.add(71);
            return weighsVoice(n, m, x) - super.tellsVoice(n, m, x);
        }
    }

    /**
     * What a TEXT gives, as steps in the order in which they are worked out: a number stands
     * for itself, what is below 0 for a NAME or a sign.
     */
    static final class Text {
        static final int NAME_0 = -1;
        static final int NAME_1 = -2;
        static final int NAME_2 = -3;
        /** 1, and h*10-n: what the USES give without a TEXT. */
        static final int[] FIRST_WEIGHT = {1};
        static final int[] FIRST_ZEAL = {NAME_0, 10, -'*', NAME_1, -'-'};

        final Row steps = new Row(MOST_BYTES, INT_BITS);
        private final int[] pile = new int[MOST_BYTES];
        private final int least;
        private final int most;

        Text(int[] first, int least, int most) {
            for (int i = 0; i < first.length; i++) {
                steps.add(first[i]);
            }
            this.least = least;
            this.most = most;
        }

        /** Held within what the USE allows. */
        int gives(int a, int b, int c) {
            int piled = 0;
            for (int i = 0; i < steps.length; i++) {
                int step = steps.get(i);
                if (step >= NAME_2) {
                    if (piled < MOST_BYTES) {
                        pile[piled] = valueOf(step, a, b, c);
                        piled++;
                    }
                } else if (step == -'!') {
                    if (piled > 0) {
                        pile[piled - 1] = oneIf(pile[piled - 1] == 0);
                    }
                } else if (piled > 1) {
                    piled--;
                    pile[piled - 1] = join(-step, pile[piled - 1], pile[piled]);
                }
            }
            return Math.max(least, Math.min(most, pile[0]));
        }

        private static int valueOf(int step, int a, int b, int c) {
            switch (step) {
                case NAME_0: return a;
                case NAME_1: return b;
                case NAME_2: return c;
                default: return step;
            }
        }

        private static int join(int sign, int left, int right) {
            switch (sign) {
                case '|': return oneIf((left | right) != 0);
                case '&': return oneIf(left != 0 && right != 0);
                case '<': return oneIf(left < right);
                case '=': return oneIf(left == right);
                case '>': return oneIf(left > right);
                case '+': return left + right;
                case '-': return left - right;
                case '*': return left * right;
                case '/': return right == 0 ? 0 : left / right;
                case '%': return right == 0 ? 0 : left % right;
                default: return 0;
            }
        }

        private static int oneIf(boolean holds) {
            return holds ? 1 : 0;
        }
    }

    /** Reads THE TAPE as a TEXT; what it read stays in its steps until it reads again. */
    static final class Reader {
        static final int NO_FAULT = -1;
        /** T, A, B, S, P of the document, by how loosely their signs bind; below them is Q. */
        private static final int COMPARISONS = 2;
        private static final int OPERANDS = 5;
        private static final int NO_LEVEL = -1;
        private static final int NO_BYTE = -1;
        private static final int MOST_OPEN = 5;
        private static final int MOST_DIGITS = 4;

        final Row steps = new Row(MOST_BYTES, INT_BITS);
        private final Row bytes = new Row(MOST_BYTES, INT_BITS);
        private String names = "";
        private int place;
        private int fault;

        /** The FAULT, or NO_FAULT. */
        int faultOf(Row tape, String namesOfUse) {
            bytes.copyFrom(tape);
            steps.clear();
            names = namesOfUse;
            place = 0;
            fault = NO_FAULT;
            readLevel(0, 0);
            if (fault == NO_FAULT && place < bytes.length) {
                fault = place;
            }
            return fault;
        }

        private int nextByte() {
            return bytes.has(place) ? bytes.get(place) : NO_BYTE;
        }

        /** How many ! and ( are open goes along, for it bounds how deep this may go. */
        private void readLevel(int level, int open) {
            if (level >= OPERANDS) {
                readOperand(open);
                return;
            }
            readLevel(level + 1, open);
            int most = level == COMPARISONS ? 1 : MOST_BYTES;
            for (int i = 0; i < most && fault == NO_FAULT && levelOf(nextByte()) == level; i++) {
                int sign = nextByte();
                place++;
                readLevel(level + 1, open);
                steps.add(-sign);
            }
        }

        private static int levelOf(int sign) {
            switch (sign) {
                case '|': return 0;
                case '&': return 1;
                case '<': case '=': case '>': return COMPARISONS;
                case '+': case '-': return 3;
                case '*': case '/': case '%': return 4;
                default: return NO_LEVEL;
            }
        }

        private void readOperand(int open) {
            int sign = nextByte();
            int name = sign == NO_BYTE ? -1 : names.indexOf((char) sign);
            if (isDigit(sign)) {
                readNumber();
            } else if (name >= 0) {
                place++;
                steps.add(Text.NAME_0 - name);
            } else if (sign == '!' && open < MOST_OPEN) {
                place++;
                readOperand(open + 1);
                steps.add(-'!');
            } else if (sign == '(' && open < MOST_OPEN) {
                place++;
                readLevel(0, open + 1);
                readClosing();
            } else {
                fault = place;
            }
        }

        private void readNumber() {
            int number = 0;
            for (int i = 0; i < MOST_DIGITS && isDigit(nextByte()); i++) {
                number = number * 10 + nextByte() - '0';
                place++;
            }
            steps.add(number);
        }

        private void readClosing() {
            if (fault != NO_FAULT) {
                return;
            }
            if (nextByte() == ')') {
                place++;
            } else {
                fault = place;
            }
        }

        private static boolean isDigit(int sign) {
            return sign >= '0' && sign <= '9';
        }
    }

    /** At most so many numbers, cut to 8, 16 or 32 bits; of 0 bits it is a SHEET that is missing. */
    static final class Row {
        private final int[] numbers;
        int bits;
        int length;

        Row(int most, int bits) {
            this.numbers = new int[Math.max(most, 0)];
            this.bits = bits;
        }

        boolean has(int i) {
            return i >= 0 && i < length;
        }

        /** Whether n numbers stand there from number i on. */
        boolean spans(int i, int n) {
            return i >= 0 && n >= 0 && i <= length - n;
        }

        int get(int i) {
            return has(i) ? numbers[i] : 0;
        }

        void set(int i, int v) {
            if (has(i)) {
                numbers[i] = cutToBits(v);
            }
        }

        void add(int v) {
            if (length < numbers.length) {
                numbers[length] = cutToBits(v);
                length++;
            }
        }

        void addUnlessThere(int v) {
            for (int i = 0; i < length; i++) {
                if (numbers[i] == v) {
                    return;
                }
            }
            add(v);
        }

        void clear() {
            length = 0;
        }

        void shape(int newBits, int n) {
            bits = newBits;
            length = Math.max(0, Math.min(n, numbers.length));
            Arrays.fill(numbers, 0);
        }

        void copyFrom(Row other) {
            bits = other.bits;
            length = Math.min(other.length, numbers.length);
            System.arraycopy(other.numbers, 0, numbers, 0, length);
        }

        void take(Row from, int i, int j, int n) {
            if (from.spans(i, n) && spans(j, n)) {
                System.arraycopy(from.numbers, i, numbers, j, n);
            }
        }

        private int cutToBits(int v) {
            if (bits == 8) {
                return (byte) v;
            }
            return bits == 16 ? (short) v : v;
        }
    }
}
