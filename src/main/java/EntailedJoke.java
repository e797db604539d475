import java.util.Arrays;

public final class EntailedJoke {
    public static final int NONE = -1, BAD = -2, NO = -3, FULL = -4;

    private static final int BRANCHES = 8, PART_KINDS = 10, MOST_PARTS = 10;
    private static final int DUCK = 7, ANY_PART = 8, POINT = 9;
    private static final int LOSE = 1, CHANGE = 2, ABOUT = 3, FORGET = 4, MEND = 5, SLIP_KINDS = 6;
    private static final int MOST_HEARD = 6, MOST_UNDO = 8, IMAGES = 2, COUNTS = 6;
    private static final int MOST_ROW = 4, MOST_HANDED = 4, TENTHS = 10, MOST_SEED = 999999, MOST_CENTURIES = 60;
    private static final int NOT_SO_MANY = -5, BAD_PLACE = -10, BAD_FUN = -1000, BAD_STATUS = -1;

    private final House now = new House();
    private final House imageZero = new House();
    private final House imageOne = new House();
    // a house is read into this one, so that one that can not be read leaves all as it is
    private final House draft = new House();
    private final Script script = new Script();
    private final Ruler ruler = new Ruler();
    private final Funniest funniestRows = new Funniest();
    private final Fraction fraction = new Fraction();
    private final int[] refusals = new int[3];
    private boolean keptZero;
    private boolean keptOne;

    public EntailedJoke() {
    }

    // ---- a house

    public int house() {
        int had = now.talesTold();
        now.becomeNew();
        return had;
    }

    public int say(int x) {
        if (!isPart(x)) {
            return refuse(BAD);
        }
        if (Tales.sizeOf(now.row) >= MOST_PARTS) {
            return refuse(FULL);
        }
        now.row = Tales.added(now.row, x);
        return Tales.sizeOf(now.row);
    }

    public int hush() {
        int had = Tales.sizeOf(now.row);
        now.row = Tales.EMPTY;
        return had;
    }

    public int tale(int branch) {
        if (!isBranch(branch)) {
            return refuse(BAD);
        }
        now.replace(branch, now.row, NONE);
        return Tales.sizeOf(now.row);
    }

    public int hand(int a, int b, int kind, int i, int x) {
        if (!isBranch(a) || !isBranch(b) || b <= a) {
            return refuse(BAD);
        }
        if (!isUpTo(kind, SLIP_KINDS - 1) || !isUpTo(i, MOST_PARTS - 1) || !isPart(x)) {
            return refuse(BAD);
        }
        long told = now.taleOf(a);
        if (told == Tales.EMPTY) {
            return refuse(NO);
        }
        long had = Tales.slipped(told, kind, i, x);
        now.replace(b, had, a);
        return Tales.sizeOf(had);
    }

    public int undo() {
        if (now.undoable == 0) {
            return refuse(NO);
        }
        now.takeBack();
        return now.talesTold();
    }

    public int type(int c) {
        if (!isUpTo(c, 127)) {
            return refuse(BAD);
        }
        if (script.length >= Script.MOST_BYTES) {
            return refuse(FULL);
        }
        script.write(c);
        return script.length;
    }

    public int clear() {
        int had = script.length;
        script.length = 0;
        return had;
    }

    public int read() {
        int answer = script.readInto(draft);
        if (answer >= 0) {
            now.becomeLike(draft);
        }
        return answer;
    }

    public int at(int branch, int i) {
        if (!isBranch(branch) || i < NONE) {
            return refuse(BAD, BAD_PLACE);
        }
        long tale = now.taleOf(branch);
        if (i == NONE) {
            return Tales.sizeOf(tale);
        }
        return i < Tales.sizeOf(tale) ? Tales.partIn(tale, i) : NOT_SO_MANY;
    }

    public int parent(int branch) {
        return isBranch(branch) ? now.parentOf(branch) : refuse(BAD);
    }

    // ---- tales

    public int pointless() {
        for (int branch = 0; branch < BRANCHES; branch++) {
            long tale = now.taleOf(branch);
            if (tale != Tales.EMPTY && !Tales.has(tale, POINT)) {
                return branch;
            }
        }
        return NONE;
    }

    public int apart(int a, int b) {
        if (!isBranch(a) || !isBranch(b)) {
            return refuse(BAD);
        }
        return ruler.between(now.taleOf(a), now.taleOf(b));
    }

    public int first(int what) {
        if (!isUpTo(what, 1)) {
            return refuse(BAD);
        }
        int which = NONE;
        int least = NONE;
        for (int branch = 0; branch < BRANCHES; branch++) {
            int sum = slipsFromOthers(branch);
            if (sum != NONE && (which == NONE || sum < least)) {
                which = branch;
                least = sum;
            }
        }
        return what == 0 ? which : least;
    }

    public int older(int a, int b) {
        if (!isBranch(a) || !isBranch(b)) {
            return refuse(BAD);
        }
        long one = now.taleOf(a);
        long other = now.taleOf(b);
        int more = Integer.compare(Tales.unlike(one), Tales.unlike(other));
        if (more == 0) {
            more = Integer.compare(Tales.sizeOf(one), Tales.sizeOf(other));
        }
        if (more == 0) {
            return 2;
        }
        return more > 0 ? 0 : 1;
    }

    public int fits(int branch, int what) {
        if (!isBranch(branch) || !isUpTo(what, 1)) {
            return refuse(BAD, BAD_PLACE);
        }
        int places = Tales.placesOf(now.row, now.taleOf(branch));
        if (what == 0) {
            return Integer.bitCount(places);
        }
        return lowestOf(places);
    }

    public int covers(int branch) {
        if (!isBranch(branch)) {
            return refuse(BAD);
        }
        return Tales.isCovered(now.taleOf(branch), now.row) ? 1 : 0;
    }

    // ---- what was heard, fun

    public int heard(int x, int is) {
        if (!isPart(x) || !isUpTo(is, 1)) {
            return refuse(BAD);
        }
        if (now.heardCount >= MOST_HEARD) {
            return refuse(FULL);
        }
        now.hear(x, is);
        return now.heardCount;
    }

    public int forget() {
        int had = now.heardCount;
        now.heardCount = 0;
        return had;
    }

    public int door() {
        return now.letThrough();
    }

    public int next() {
        int these = now.letThrough();
        if (these == 0) {
            return NONE;
        }
        int best = NONE;
        int least = NONE;
        for (int x = 0; x < PART_KINDS; x++) {
            int with = Integer.bitCount(these & now.branchesWith(x));
            int greater = Math.max(with, Integer.bitCount(these) - with);
            if (best == NONE || greater < least) {
                best = x;
                least = greater;
            }
        }
        return best;
    }

    public int fun(int branch) {
        return isBranch(branch) ? Laws.funOf(now.taleOf(branch)) : refuse(BAD, BAD_FUN);
    }

    public int funniest(int m, int i) {
        if (!isUpTo(m, MOST_ROW) || i < NONE) {
            return refuse(BAD, BAD_FUN);
        }
        if (i >= m) {
            return NOT_SO_MANY;
        }
        long row = funniestRows.rowOf(m);
        return i == NONE ? Laws.funOf(row) : Tales.partIn(row, i);
    }

    public int slip(int branch) {
        return isBranch(branch) ? Laws.funniestSlip(now.taleOf(branch)) : refuse(BAD);
    }

    public int pawned(int set, int what) {
        if (!isUpTo(set, (1 << PART_KINDS) - 1) || !isUpTo(what, 1)) {
            return refuse(BAD);
        }
        return what == 0 ? now.branchesWithout(set) : now.fewestWith(set);
    }

    public int odds(int branch, int x, int n, int c) {
        if (!isBranch(branch) || !isPart(x) || !isUpTo(n, MOST_HANDED) || !isUpTo(c, TENTHS)) {
            return refuse(BAD);
        }
        long tale = now.taleOf(branch);
        fraction.becomeOdds(Tales.sizeOf(tale), Tales.timesIn(tale, x), n, c);
        return 1;
    }

    public int centuries(int branch, int seed, int n) {
        if (!isBranch(branch) || !isUpTo(seed, MOST_SEED) || !isUpTo(n, MOST_CENTURIES)) {
            return refuse(BAD);
        }
        return Chance.centuriesOfDuck(now.taleOf(branch), seed, n);
    }

    // ---- what there is

    public long part(int what) {
        if (!isUpTo(what, 1)) {
            return refuse(BAD);
        }
        return what == 0 ? fraction.above : fraction.below;
    }

    public int image(int i) {
        if (!isUpTo(i, IMAGES - 1)) {
            return refuse(BAD);
        }
        if (i == 0) {
            imageZero.becomeLike(now);
            keptZero = true;
        } else {
            imageOne.becomeLike(now);
            keptOne = true;
        }
        return 1;
    }

    public int from(int i) {
        if (!isUpTo(i, IMAGES - 1)) {
            return refuse(BAD);
        }
        if (i == 0 ? !keptZero : !keptOne) {
            return refuse(NO);
        }
        now.becomeLike(i == 0 ? imageZero : imageOne);
        return 1;
    }

    public int status(int what) {
        if (what < 0 || what >= refusals.length) {
            return refuse(BAD, BAD_STATUS);
        }
        return refusals[what];
    }

    public int count(int what) {
        return isUpTo(what, COUNTS - 1) ? howMany(what) : refuse(BAD);
    }

    public long digest() {
        long h = 1051;
        for (int what = 0; what < COUNTS; what++) {
            h = 31 * h + howMany(what);
        }
        h = now.digestedOnto(h);
        h = 31 * h + fraction.above;
        return 31 * h + fraction.below;
    }

    // ---- what the calls share

    private static boolean isUpTo(int number, int most) {
        return number >= 0 && number <= most;
    }

    private static boolean isBranch(int branch) {
        return isUpTo(branch, BRANCHES - 1);
    }

    private static boolean isPart(int x) {
        return isUpTo(x, PART_KINDS - 1);
    }

    private int refuse(int why) {
        return refuse(why, why);
    }

    private int refuse(int why, int answer) {
        int what = BAD - why;
        if (what >= 0 && what < refusals.length) {
            refusals[what]++;
        }
        return answer;
    }

    private int howMany(int what) {
        switch (what) {
            case 0:
                return now.talesTold();
            case 1:
                return now.partsOfAll();
            case 2:
                return Tales.sizeOf(now.row);
            case 3:
                return now.heardCount;
            case 4:
                return now.undoable;
            default:
                return script.length;
        }
    }

    private static int lowestOf(int bits) {
        for (int bit = 0; bit < 32; bit++) {
            if ((bits >>> bit & 1) == 1) {
                return bit;
            }
        }
        return NONE;
    }

    private int slipsFromOthers(int branch) {
        long tale = now.taleOf(branch);
        if (tale == Tales.EMPTY) {
            return NONE;
        }
        int sum = 0;
        for (int other = 0; other < BRANCHES; other++) {
            if (other != branch && now.taleOf(other) != Tales.EMPTY) {
                sum += ruler.between(tale, now.taleOf(other));
            }
        }
        return sum;
    }

    /**
     * A tale is one number, so that telling, keeping and undoing copy numbers and make no objects:
     * the low four bits are how many parts it has, each four bits above them a part, the first one
     * lowest. Nothing stands above the last part, so that like tales are like numbers.
     */
    private static final class Tales {
        static final long EMPTY = 0;

        static int sizeOf(long tale) {
            int size = (int) (tale & 15);
            return size < MOST_PARTS ? size : MOST_PARTS;
        }

        static int partIn(long tale, int i) {
            return (int) (tale >>> 4 * i + 4) & 15;
        }

        static long added(long tale, int x) {
            int size = sizeOf(tale);
            return size < MOST_PARTS ? tale + 1 + ((long) x << 4 * size + 4) : tale;
        }

        static long addedAhead(long tale, int x) {
            int size = sizeOf(tale);
            return size < MOST_PARTS ? (tale >>> 4 << 8) + ((long) x << 4) + size + 1 : tale;
        }

        static boolean has(long tale, int x) {
            return (kindsIn(tale) >> x & 1) == 1;
        }

        static int kindsIn(long tale) {
            int kinds = 0;
            for (int i = 0; i < sizeOf(tale); i++) {
                kinds |= 1 << partIn(tale, i);
            }
            return kinds;
        }

        static int unlike(long tale) {
            return Integer.bitCount(kindsIn(tale));
        }

        static int timesIn(long tale, int x) {
            int times = 0;
            for (int i = 0; i < sizeOf(tale); i++) {
                if (partIn(tale, i) == x) {
                    times++;
                }
            }
            return times;
        }

        static long slipped(long tale, int kind, int i, int x) {
            switch (kind) {
                case LOSE:
                    return without(tale, i);
                case CHANGE:
                    return changed(tale, i, x);
                case ABOUT:
                    return turnedAbout(tale, i);
                case FORGET:
                    return upTo(without(tale, i), i);
                case MEND:
                    return mended(changed(tale, i, x));
                default:
                    return tale;
            }
        }

        private static long without(long tale, int place) {
            long left = EMPTY;
            for (int i = 0; i < sizeOf(tale); i++) {
                if (i != place) {
                    left = added(left, partIn(tale, i));
                }
            }
            return left;
        }

        private static long changed(long tale, int place, int x) {
            long left = EMPTY;
            for (int i = 0; i < sizeOf(tale); i++) {
                left = added(left, i == place ? x : partIn(tale, i));
            }
            return left;
        }

        private static long turnedAbout(long tale, int place) {
            if (place + 1 >= sizeOf(tale)) {
                return tale;
            }
            int moved = partIn(tale, place);
            return changed(changed(tale, place, partIn(tale, place + 1)), place + 1, moved);
        }

        private static long upTo(long tale, int place) {
            long left = EMPTY;
            for (int i = 0; i < sizeOf(tale) && i < place; i++) {
                left = added(left, partIn(tale, i));
            }
            return left;
        }

        private static long mended(long tale) {
            return has(tale, POINT) ? tale : added(tale, POINT);
        }

        /** The places, as bits, from which on the row stands in the tale. */
        static int placesOf(long row, long tale) {
            int places = 0;
            for (int place = 0; place + sizeOf(row) <= sizeOf(tale); place++) {
                if (standsIn(row, tale, place)) {
                    places |= 1 << place;
                }
            }
            return places;
        }

        private static boolean standsIn(long row, long tale, int place) {
            for (int i = 0; i < sizeOf(row); i++) {
                int part = partIn(row, i);
                if (part != ANY_PART && part != partIn(tale, place + i)) {
                    return false;
                }
            }
            return true;
        }

        static boolean isCovered(long tale, long row) {
            if (row == EMPTY) {
                return false;
            }
            int places = placesOf(row, tale);
            int under = 0;
            for (int i = 0; i < sizeOf(row); i++) {
                under |= places << i;
            }
            return under == (1 << sizeOf(tale)) - 1;
        }
    }

    /** All that an image keeps. */
    private static final class House {
        private final long[] tales = new long[BRANCHES];
        private final int[] parents = new int[BRANCHES];
        private final int[] heardParts = new int[MOST_HEARD];
        private final int[] heardIs = new int[MOST_HEARD];
        // a telling touches one branch alone, so that this one is enough to undo it
        private final int[] undoBranches = new int[MOST_UNDO];
        private final long[] undoTales = new long[MOST_UNDO];
        private final int[] undoParents = new int[MOST_UNDO];
        long row;
        int heardCount;
        int undoable;

        House() {
            Arrays.fill(parents, NONE);
        }

        void becomeNew() {
            Arrays.fill(tales, Tales.EMPTY);
            Arrays.fill(parents, NONE);
            row = Tales.EMPTY;
            heardCount = 0;
            undoable = 0;
        }

        void becomeLike(House other) {
            System.arraycopy(other.tales, 0, tales, 0, BRANCHES);
            System.arraycopy(other.parents, 0, parents, 0, BRANCHES);
            System.arraycopy(other.heardParts, 0, heardParts, 0, MOST_HEARD);
            System.arraycopy(other.heardIs, 0, heardIs, 0, MOST_HEARD);
            System.arraycopy(other.undoBranches, 0, undoBranches, 0, MOST_UNDO);
            System.arraycopy(other.undoTales, 0, undoTales, 0, MOST_UNDO);
            System.arraycopy(other.undoParents, 0, undoParents, 0, MOST_UNDO);
            row = other.row;
            heardCount = other.heardCount;
            undoable = other.undoable;
        }

        long taleOf(int branch) {
            return isBranch(branch) ? tales[branch] : Tales.EMPTY;
        }

        int parentOf(int branch) {
            return isBranch(branch) ? parents[branch] : NONE;
        }

        void put(int branch, long tale, int parent) {
            if (isBranch(branch)) {
                tales[branch] = tale;
                parents[branch] = parent;
            }
        }

        void replace(int branch, long tale, int parent) {
            if (undoable >= MOST_UNDO) {
                forgetOldest();
            }
            if (isUpTo(undoable, MOST_UNDO - 1)) {
                undoBranches[undoable] = branch;
                undoTales[undoable] = taleOf(branch);
                undoParents[undoable] = parentOf(branch);
                undoable++;
            }
            put(branch, tale, parent);
        }

        private void forgetOldest() {
            undoable = MOST_UNDO - 1;
            System.arraycopy(undoBranches, 1, undoBranches, 0, undoable);
            System.arraycopy(undoTales, 1, undoTales, 0, undoable);
            System.arraycopy(undoParents, 1, undoParents, 0, undoable);
        }

        void takeBack() {
            int last = undoable - 1;
            if (isUpTo(last, MOST_UNDO - 1)) {
                put(undoBranches[last], undoTales[last], undoParents[last]);
                undoable = last;
            }
        }

        void hear(int x, int is) {
            if (isUpTo(heardCount, MOST_HEARD - 1)) {
                heardParts[heardCount] = x;
                heardIs[heardCount] = is;
                heardCount++;
            }
        }

        int talesTold() {
            return Integer.bitCount(branchesWithout(0));
        }

        int partsOfAll() {
            int parts = 0;
            for (long tale : tales) {
                parts += Tales.sizeOf(tale);
            }
            return parts;
        }

        int branchesWith(int x) {
            int branches = 0;
            for (int branch = 0; branch < BRANCHES; branch++) {
                if (Tales.has(tales[branch], x)) {
                    branches |= 1 << branch;
                }
            }
            return branches;
        }

        /** Those that are not empty and have no part of the set. */
        int branchesWithout(int set) {
            int branches = 0;
            for (int branch = 0; branch < BRANCHES; branch++) {
                if (tales[branch] != Tales.EMPTY && (Tales.kindsIn(tales[branch]) & set) == 0) {
                    branches |= 1 << branch;
                }
            }
            return branches;
        }

        int letThrough() {
            int these = branchesWithout(0);
            for (int i = 0; i < heardCount && i < MOST_HEARD; i++) {
                int with = branchesWith(heardParts[i]);
                these &= heardIs[i] == 1 ? with : ~with;
            }
            return these;
        }

        int fewestWith(int set) {
            int fewest = NONE;
            for (int branches = 0; branches < 1 << BRANCHES; branches++) {
                boolean isFewer = fewest == NONE || Integer.bitCount(branches) < Integer.bitCount(fewest);
                if (isFewer && (set & ~kindsTogether(branches)) == 0) {
                    fewest = branches;
                }
            }
            return fewest;
        }

        private int kindsTogether(int branches) {
            int kinds = 0;
            for (int branch = 0; branch < BRANCHES; branch++) {
                if ((branches >> branch & 1) == 1) {
                    kinds |= Tales.kindsIn(tales[branch]);
                }
            }
            return kinds;
        }

        long digestedOnto(long start) {
            long h = start;
            for (int branch = 0; branch < BRANCHES; branch++) {
                h = 31 * h + Tales.sizeOf(tales[branch]);
                h = 31 * partsOnto(h, tales[branch]) + parents[branch];
            }
            h = partsOnto(h, row);
            for (int i = 0; i < heardCount && i < MOST_HEARD; i++) {
                h = 31 * (31 * h + heardParts[i]) + heardIs[i];
            }
            return h;
        }

        private static long partsOnto(long start, long tale) {
            long h = start;
            for (int i = 0; i < Tales.sizeOf(tale); i++) {
                h = 31 * h + Tales.partIn(tale, i);
            }
            return h;
        }
    }

    /** The text, and the reading of a house from it. */
    private static final class Script {
        static final int MOST_BYTES = 150;
        private static final int END = 0, WORD = 1, NUMBER = 2, ENDING = 3, WRONG = 4;
        private static final int FAULT_BASE = -10;

        private final byte[] bytes = new byte[MOST_BYTES];
        int length;
        // the token that is looked at: from start to the byte ahead of behind
        private int start;
        private int behind;
        private int token;
        private int number;

        void write(int c) {
            if (isUpTo(length, MOST_BYTES - 1)) {
                bytes[length] = (byte) c;
                length++;
            }
        }

        /** Answers how many items, or -10 less the fault; then what stands in the house is of no use. */
        int readInto(House house) {
            house.becomeNew();
            behind = 0;
            look();
            if (!isWord("house") || !isEnded()) {
                return FAULT_BASE - start;
            }
            for (int items = 1; items <= length; items++) {
                look();
                if (token == END) {
                    return items;
                }
                boolean stands = isWord("tale") ? readTale(house) : isWord("hand") && readHand(house);
                if (!stands) {
                    return FAULT_BASE - start;
                }
            }
            return FAULT_BASE - length;
        }

        private boolean readTale(House house) {
            if (!isNumber(BRANCHES - 1)) {
                return false;
            }
            int branch = number;
            long tale = Tales.EMPTY;
            for (int parts = 0; parts <= MOST_PARTS; parts++) {
                look();
                if (token == ENDING) {
                    house.put(branch, tale, NONE);
                    return true;
                }
                if (token != NUMBER || !isPart(number) || parts == MOST_PARTS) {
                    return false;
                }
                tale = Tales.added(tale, number);
            }
            return false;
        }

        private boolean readHand(House house) {
            if (!isNumber(BRANCHES - 1) || house.taleOf(number) == Tales.EMPTY) {
                return false;
            }
            int a = number;
            if (!isNumber(BRANCHES - 1) || number <= a) {
                return false;
            }
            int b = number;
            if (!isNumber(SLIP_KINDS - 1)) {
                return false;
            }
            int kind = number;
            if (!isNumber(MOST_PARTS - 1)) {
                return false;
            }
            int i = number;
            if (!isNumber(PART_KINDS - 1)) {
                return false;
            }
            house.put(b, Tales.slipped(house.taleOf(a), kind, i, number), a);
            return isEnded();
        }

        private boolean isNumber(int most) {
            look();
            return token == NUMBER && number <= most;
        }

        private boolean isEnded() {
            look();
            return token == ENDING;
        }

        private boolean isWord(String word) {
            if (token != WORD || behind - start != word.length()) {
                return false;
            }
            for (int i = 0; i < word.length(); i++) {
                if (byteIn(start + i) != word.charAt(i)) {
                    return false;
                }
            }
            return true;
        }

        private void look() {
            start = behind;
            while (start < length && byteIn(start) == ' ') {
                start++;
            }
            behind = start;
            number = 0;
            if (start >= length) {
                token = END;
            } else if (isLetter(byteIn(start))) {
                lookAtWord();
            } else if (isFigure(byteIn(start))) {
                lookAtNumber();
            } else {
                token = byteIn(start) == ';' ? ENDING : WRONG;
                behind = start + 1;
            }
        }

        private void lookAtWord() {
            token = WORD;
            while (behind < length && isLetter(byteIn(behind))) {
                behind++;
            }
        }

        private void lookAtNumber() {
            while (behind < length && isFigure(byteIn(behind))) {
                number = 10 * number + byteIn(behind) - '0';
                behind++;
            }
            // a long run overflows the number, but is no number at all
            token = behind - start <= 2 ? NUMBER : WRONG;
        }

        private static boolean isLetter(int c) {
            return c >= 'a' && c <= 'z';
        }

        private static boolean isFigure(int c) {
            return c >= '0' && c <= '9';
        }

        private int byteIn(int place) {
            return place >= 0 && place < length && place < MOST_BYTES ? bytes[place] : NONE;
        }
    }

    /** How many slips lie between two tales. */
    private static final class Ruler {
        private final int[][] slips = new int[MOST_PARTS + 1][MOST_PARTS + 1];

        int between(long one, long other) {
            int rows = Tales.sizeOf(one);
            int columns = Tales.sizeOf(other);
            for (int i = 0; i <= rows; i++) {
                for (int j = 0; j <= columns; j++) {
                    slips[i][j] = i == 0 || j == 0 ? i + j : leastOf(one, i, other, j);
                }
            }
            return slips[rows][columns];
        }

        private int leastOf(long one, int i, long other, int j) {
            int lastOne = Tales.partIn(one, i - 1);
            int lastOther = Tales.partIn(other, j - 1);
            int least = Math.min(slips[i - 1][j], slips[i][j - 1]) + 1;
            least = Math.min(least, slips[i - 1][j - 1] + (lastOne == lastOther ? 0 : 1));
            if (i < 2 || j < 2) {
                return least;
            }
            boolean isTurned = lastOne == Tales.partIn(other, j - 2) && lastOther == Tales.partIn(one, i - 2);
            return isTurned ? Math.min(least, slips[i - 2][j - 2] + 1) : least;
        }
    }

    /** How funny a tale is. */
    private static final class Laws {
        private static final int UNLIKE_FUN = 2, DUCK_FUN = 5, POINT_FUN = 3, STALE_FUN = 4, STALE_TIMES = 2;

        static int funOf(long tale) {
            int fun = 0;
            int ahead = NONE;
            long times = 0; // four bits for each kind of part, as often as it was there
            for (int i = 0; i < Tales.sizeOf(tale); i++) {
                int x = Tales.partIn(tale, i);
                fun += funOfNext(ahead, x, (int) (times >>> 4 * x) & 15);
                times += 1L << 4 * x;
                ahead = x;
            }
            return ahead == POINT ? fun + POINT_FUN : fun;
        }

        private static int funOfNext(int ahead, int x, int timesAhead) {
            int fun = x == ahead ? 0 : UNLIKE_FUN;
            if (ahead == DUCK && x == POINT) {
                fun += DUCK_FUN;
            }
            return timesAhead >= STALE_TIMES ? fun - STALE_FUN : fun;
        }

        static int funniestSlip(long tale) {
            int best = 0;
            int most = funOf(tale);
            for (int kind = LOSE; kind < SLIP_KINDS; kind++) {
                // where x does not matter, the least number has 0 there
                int parts = kind == CHANGE || kind == MEND ? PART_KINDS : 1;
                for (int i = 0; i < MOST_PARTS; i++) {
                    for (int x = 0; x < parts; x++) {
                        int fun = funOf(Tales.slipped(tale, kind, i, x));
                        if (fun > most) {
                            best = 100 * kind + 10 * i + x;
                            most = fun;
                        }
                    }
                }
            }
            return best;
        }
    }

    /** The funniest rows: the same for every house, so each is looked for once and kept. */
    private static final class Funniest {
        private final long[] rows = new long[MOST_ROW + 1];

        long rowOf(int m) {
            if (!isUpTo(m, MOST_ROW)) {
                return Tales.EMPTY;
            }
            if (rows[m] == Tales.EMPTY) {
                rows[m] = firstFunniest(m);
            }
            return rows[m];
        }

        private static long firstFunniest(int m) {
            int all = 1;
            for (int i = 0; i < m; i++) {
                all *= PART_KINDS;
            }
            long best = Tales.EMPTY;
            int most = 0;
            for (int number = 0; number < all; number++) {
                long row = rowOfFigures(number, m);
                int fun = Laws.funOf(row);
                if (number == 0 || fun > most) {
                    best = row;
                    most = fun;
                }
            }
            return best;
        }

        /** The figures of the number are the parts: so the rows come in the order of their numbers. */
        private static long rowOfFigures(int number, int m) {
            long row = Tales.EMPTY;
            int left = number;
            for (int i = 0; i < m; i++) {
                row = Tales.addedAhead(row, left % PART_KINDS);
                left /= PART_KINDS;
            }
            return row;
        }
    }

    /** The fraction, in lowest terms. */
    private static final class Fraction {
        long above = 0;
        long below = 1;

        /**
         * Parts lost one after another leave each choice of places alike likely. So all parts like x
         * are among those lost by falling(lost, like) of falling(size, like).
         */
        void becomeOdds(int size, int like, int n, int c) {
            long ways = falling(size, like);
            long kept = 0;
            long choices = 1;
            for (int losses = 0; losses <= n; losses++) {
                long weight = choices * power(c, losses) * power(TENTHS - c, n - losses);
                kept += weight * (ways - falling(Math.min(losses, size), like));
                choices = choices * (n - losses) / (losses + 1);
            }
            become(kept, power(TENTHS, n) * ways);
        }

        private void become(long over, long under) {
            long divisor = commonDivisor(over, under);
            if (divisor > 0) {
                above = over / divisor;
                below = under / divisor;
            }
        }

        private static long falling(int from, int factors) {
            long product = 1;
            for (int i = 0; i < factors; i++) {
                product *= from - i;
            }
            return product;
        }

        private static long power(int base, int times) {
            long product = 1;
            for (int i = 0; i < times; i++) {
                product *= base;
            }
            return product;
        }

        private static long commonDivisor(long one, long other) {
            long a = one;
            long b = other;
            // Euclid's steps on two longs are fewer than a hundred
            for (int step = 0; step < 100 && b != 0; step++) {
                long left = a % b;
                a = b;
                b = left;
            }
            return a;
        }
    }

    /** Centuries by a seed. */
    private static final class Chance {
        static int centuriesOfDuck(long tale, int seed, int n) {
            long left = tale;
            long kind = seed;
            for (int century = 0; century <= n; century++) {
                if (!Tales.has(left, DUCK)) {
                    return century;
                }
                kind = following(kind);
                long place = following(kind);
                long part = following(place);
                left = Tales.slipped(left, cut(kind, SLIP_KINDS), cut(place, MOST_PARTS), cut(part, PART_KINDS));
                kind = part;
            }
            return NONE;
        }

        private static long following(long x) {
            return (x * 1103515245L + 12345L) % 2147483648L;
        }

        private static int cut(long x, int kinds) {
            return kinds > 0 ? (int) (x / 65536 % kinds) : 0;
        }
    }
}
