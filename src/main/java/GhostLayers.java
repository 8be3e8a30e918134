/**
 * A cache of blocks in two layers for some clients: an upper layer with a list of recent and one of
 * frequent units, ghosts of what left them that teach the list's sizes, runs that are taken for
 * scans, shares of clients, a lower layer to which units are demoted, dirty units that are written
 * back in the order of a moving head; traces, predictions, undo.
 */
public final class GhostLayers {
    public static final int NONE = -1;

    private static final int BLOCKS = 200;
    private static final int VALUES = 1000;
    private static final int STORE_STEP = 5;

    private static final int RECENT = 0;
    private static final int FREQUENT = 1;
    private static final int LOWER = 2;
    private static final int RECENT_GHOSTS = 3;
    private static final int FREQUENT_GHOSTS = 4;
    private static final int UNIT_LISTS = 3;
    private static final int LISTS = 5;

    private static final int MOST_CLIENTS = 4;
    private static final int MOST_WEIGHT = 9;

    private static final int SET_LENGTH = 0;
    private static final int LEAST_LENGTH = 2;
    private static final int MOST_LENGTH = 20;
    private static final int MOST_LIMIT = 40;
    private static final int LEAST_SIZE = 2;
    private static final int MOST_UP = 16;
    private static final int MOST_LOW = 24;

    private static final int UPPER_HIT = 0;
    private static final int LOWER_HIT = 1;
    private static final int MISS = 2;

    private static final int COUNT_FIRST_LIST = 7;
    private static final int COUNT_ACTS = 23;
    private static final int LAST_OF_CLIENT = 10;
    private static final int LAST_OF_BLOCK = 6;
    private static final int LAST_OF_PREDICTION = 6;

    private static final int MOST_FLUSH = 40;
    private static final int MOST_AHEAD = 40;
    private static final int MOST_ROUNDS = 4;

    private static final int TEXT_ROOM = 600;
    private static final int BYTES_AT_ONCE = 4;
    private static final int BITS_OF_BYTE = 8;
    private static final int BYTE_MASK = 255;
    private static final int MOST_COMMANDS = 40;
    private static final int WRONG_TOKEN = 1;
    private static final int WRONG_NUMBER = 2;
    private static final int TOO_MANY_COMMANDS = 3;

    private static final int ACTS_KEPT = 8;
    private static final int SLOTS = 2;

    private final Trace trace;
    private final Page page;
    private final Cache now;
    private final Cache trial;
    private final History past;
    private final Cache[] saved;

    public GhostLayers() {
        trace = new Trace();
        page = new Page();
        now = new Cache();
        trial = new Cache();
        past = new History();
        saved = new Cache[SLOTS];
    }

    // ---- traces

    public int appendText(int fourBytes) throws IllegalStateException {
        if (trace.size > TEXT_ROOM - BYTES_AT_ONCE) {
            throw new IllegalStateException("the text would be too long");
        }
        for (int shift = BITS_OF_BYTE * (BYTES_AT_ONCE - 1); shift >= 0; shift -= BITS_OF_BYTE) {
            trace.addByte(fourBytes >>> shift & BYTE_MASK);
        }
        return trace.size;
    }

    public int truncateText(int length) throws IllegalArgumentException {
        needRange(length, 0, trace.size);
        trace.size = length;
        return length;
    }

    public int runTrace() {
        boolean isGood = trace.parse();
        trace.size = 0;
        if (!isGood) {
            return NONE;
        }
        past.keep(now);
        int timeBefore = now.tally.time;
        boolean goesOn = true;
        for (int index = 0; index < trace.commandCount && goesOn; index++) {
            goesOn = perform(index);
        }
        return now.tally.time - timeBefore;
    }

    public int errorCode() {
        return trace.errorKind;
    }

    public int errorPosition() {
        return trace.errorPlace;
    }

    // ---- clients and settings

    public int addClient(int weight) throws IllegalArgumentException, IllegalStateException {
        needRange(weight, 1, MOST_WEIGHT);
        if (now.clientCount >= MOST_CLIENTS) {
            throw new IllegalStateException("there are as many clients as there may be");
        }
        past.keep(now);
        return now.addOne(weight);
    }

    public int setWeight(int client, int weight)
            throws IndexOutOfBoundsException, IllegalArgumentException {
        needClient(client);
        needRange(weight, 1, MOST_WEIGHT);
        past.keep(now);
        return now.changeWeight(client, weight);
    }

    public int set(int what, int value) throws IllegalArgumentException {
        needRange(what, SET_LENGTH, 1);
        if (what == SET_LENGTH) {
            needRange(value, LEAST_LENGTH, MOST_LENGTH);
        } else {
            needRange(value, 0, MOST_LIMIT);
        }
        past.keep(now);
        return now.changeSetting(what, value);
    }

    public int shape(int up, int low) throws IllegalArgumentException {
        needRange(up, LEAST_SIZE, MOST_UP);
        needRange(low, LEAST_SIZE, MOST_LOW);
        past.keep(now);
        return now.reshape(up, low);
    }

    // ---- what there is

    public int count(int what) throws IllegalArgumentException {
        needRange(what, 0, COUNT_ACTS);
        return what == COUNT_ACTS ? past.count : now.numberOf(what);
    }

    public int client(int client, int what)
            throws IndexOutOfBoundsException, IllegalArgumentException {
        needClient(client);
        needRange(what, 0, LAST_OF_CLIENT);
        return now.numberOfClient(client, what);
    }

    public int block(int block, int what) throws IllegalArgumentException {
        needRange(block, 0, BLOCKS - 1);
        needRange(what, 0, LAST_OF_BLOCK);
        return now.numberOfBlock(block, what);
    }

    public int at(int list, int place) throws IndexOutOfBoundsException {
        needIndex(list, LISTS);
        needNoLessThanZero(place);
        return now.rowOf(list).blockAt(place);
    }

    // ---- acts

    public int read(int client, int block)
            throws IndexOutOfBoundsException, IllegalArgumentException {
        needClient(client);
        needRange(block, 0, BLOCKS - 1);
        past.keep(now);
        now.access(client, block, false);
        return now.blocks.valueOf(block);
    }

    public int write(int client, int block, int value)
            throws IndexOutOfBoundsException, IllegalArgumentException {
        needClient(client);
        needRange(block, 0, BLOCKS - 1);
        needRange(value, 0, VALUES - 1);
        past.keep(now);
        int writtenBefore = now.blocks.writtenBack;
        now.access(client, block, true);
        now.finishWrite(block, value);
        return now.blocks.writtenBack - writtenBefore;
    }

    public int flush(int many) throws IllegalArgumentException {
        needRange(many, 1, MOST_FLUSH);
        past.keep(now);
        return now.blocks.writeBackSome(many);
    }

    public boolean forget(int block) throws IllegalArgumentException {
        needRange(block, 0, BLOCKS - 1);
        past.keep(now);
        return now.loseBlock(block);
    }

    // ---- what follows

    public double share(int client) throws IndexOutOfBoundsException {
        needClient(client);
        int sum = now.sumOfWeights();
        return sum == 0 ? 0.0 : (double) (now.up * now.weightOf(client)) / (double) sum;
    }

    public float hitShare() {
        int accesses = now.tally.time;
        return accesses == 0 ? 0.0f : (float) now.tally.upperHits / (float) accesses;
    }

    public int order(int index) throws IndexOutOfBoundsException {
        needNoLessThanZero(index);
        return now.blocks.dirtyAt(index);
    }

    public int victim(boolean wasFrequent) {
        return now.unitToDemote(wasFrequent);
    }

    public int leaving() {
        return now.unitToLeave();
    }

    public int oldest() {
        return now.blocks.dirtyLongest();
    }

    public int ages(int list) throws IndexOutOfBoundsException {
        needIndex(list, UNIT_LISTS);
        return now.sumOfAges(list);
    }

    public int ownedAt(int client, int list, int index) throws IndexOutOfBoundsException {
        needClient(client);
        needIndex(list, UNIT_LISTS);
        needNoLessThanZero(index);
        return now.ownedBlock(client, list, index);
    }

    public float excess(int client) throws IndexOutOfBoundsException {
        needClient(client);
        int sum = now.sumOfWeights();
        int above = now.unitsAbove(client, now.upperUnitsOf(client), sum);
        return sum == 0 ? 0.0f : (float) above / (float) sum;
    }

    public int toScan(int client, int block)
            throws IndexOutOfBoundsException, IllegalArgumentException {
        needClient(client);
        needRange(block, 0, BLOCKS - 1);
        int reads = Math.max(1, now.length - now.runAt(client, block) + 1);
        return block + reads > BLOCKS ? NONE : reads;
    }

    public int rank(int block) throws IllegalArgumentException {
        needRange(block, 0, BLOCKS - 1);
        return now.blocks.rankOf(block);
    }

    public int between(int list, int from, int to)
            throws IndexOutOfBoundsException, IllegalArgumentException {
        needIndex(list, LISTS);
        needRange(from, 0, BLOCKS - 1);
        needRange(to, from, BLOCKS - 1);
        return now.rowOf(list).howManyIn(from, to);
    }

    public int longest(int list) throws IndexOutOfBoundsException {
        needIndex(list, LISTS);
        return now.blocks.longestChain(list);
    }

    public int differing() {
        return now.blocks.howManyDiffer();
    }

    public int stale(int age) throws IllegalArgumentException {
        if (age < 0) {
            throw new IllegalArgumentException("less than 0");
        }
        return now.blocks.howManyDirtySince(now.tally.time - age);
    }

    // ---- predictions (nothing changes)

    public int wouldBe(int client, int block, int what)
            throws IndexOutOfBoundsException, IllegalArgumentException {
        needClient(client);
        needRange(block, 0, BLOCKS - 1);
        needRange(what, 0, LAST_OF_PREDICTION);
        trial.copyFrom(now);
        int kind = trial.access(client, block, false);
        return predictionOf(block, kind, what);
    }

    public int ahead(int client, int from, int many, int rounds, int what)
            throws IndexOutOfBoundsException, IllegalArgumentException {
        needReadsAhead(client, from, many, rounds);
        needRange(what, 0, LAST_OF_PREDICTION);
        readAhead(client, from, many, rounds, now.length);
        return differenceAhead(what);
    }

    public int bestLength(int client, int from, int many, int rounds)
            throws IndexOutOfBoundsException, IllegalArgumentException {
        needReadsAhead(client, from, many, rounds);
        int best = NONE;
        int mostHits = NONE;
        for (int length = LEAST_LENGTH; length <= MOST_LENGTH; length++) {
            readAhead(client, from, many, rounds, length);
            int hits = differenceAhead(UPPER_HIT) + differenceAhead(LOWER_HIT);
            if (hits > mostHits) {
                mostHits = hits;
                best = length;
            }
        }
        return best;
    }

    // ---- output

    public int show(int list) throws IndexOutOfBoundsException {
        needIndex(list, LISTS);
        Row row = now.rowOf(list);
        page.size = 0;
        for (int place = 0; place < row.size; place++) {
            int block = row.blockAt(place);
            if (place > 0) {
                page.addByte(',');
            }
            page.addNumber(block);
            if (list < UNIT_LISTS && now.blocks.isDirty(block)) {
                page.addByte('*');
            }
        }
        return page.size;
    }

    public int output(int index) {
        return page.byteAt(index);
    }

    // ---- undo, saved states

    public int undo() {
        return past.takeBack(now) ? past.count : NONE;
    }

    public void save(int slot) throws IllegalArgumentException {
        if (slot < 0 || slot >= saved.length) {
            throw new IllegalArgumentException("no such slot");
        }
        Cache kept = saved[slot];
        if (kept == null) {
            kept = new Cache();
            saved[slot] = kept;
        }
        kept.copyFrom(now);
    }

    public void restore(int slot) throws IllegalArgumentException, IllegalStateException {
        if (slot < 0 || slot >= saved.length) {
            throw new IllegalArgumentException("no such slot");
        }
        Cache kept = saved[slot];
        if (kept == null) {
            throw new IllegalStateException("nothing is saved there");
        }
        now.copyFrom(kept);
        past.count = 0;
    }

    // ---- what the calls share

    private void needClient(int client) {
        needIndex(client, now.clientCount);
    }

    private static void needIndex(int index, int many) {
        if (index < 0 || index >= many) {
            throw new IndexOutOfBoundsException("there is no such one");
        }
    }

    private static void needNoLessThanZero(int index) {
        if (index < 0) {
            throw new IndexOutOfBoundsException("less than 0");
        }
    }

    private static void needRange(int value, int least, int most) {
        if (value < least || value > most) {
            throw new IllegalArgumentException("out of range");
        }
    }

    private void needReadsAhead(int client, int from, int many, int rounds) {
        needClient(client);
        needRange(from, 0, BLOCKS - 1);
        needRange(many, 1, Math.min(MOST_AHEAD, BLOCKS - from));
        needRange(rounds, 1, MOST_ROUNDS);
    }

    /** Does a command of the trace; answers whether the trace goes on behind it. */
    private boolean perform(int index) {
        int verb = trace.partOf(trace.verbs, index);
        int first = trace.partOf(trace.firsts, index);
        int second = trace.partOf(trace.seconds, index);
        if (verb == Trace.FLUSH) {
            now.blocks.writeBackSome(first);
            return true;
        }
        int client = trace.partOf(trace.clients, index);
        if (client >= now.clientCount) {
            return false;
        }
        if (verb == Trace.WRITE) {
            now.access(client, first, true);
            now.finishWrite(first, second);
            return true;
        }
        for (int block = first; block <= second; block++) {
            now.access(client, block, false);
        }
        return true;
    }

    private int predictionOf(int block, int kind, int what) {
        switch (what) {
            case 0:
                return kind;
            case 1:
                return trial.tally.scans - now.tally.scans;
            case 2:
                return trial.blocks.listOf(block);
            case 3:
                return trial.tally.demotedBlock;
            case 4:
                return trial.tally.leftBlock;
            case 5:
                return trial.blocks.writtenBack - now.blocks.writtenBack;
            default:
                return trial.target;
        }
    }

    /** Leaves in the trial what would be behind these reads. */
    private void readAhead(int client, int from, int many, int rounds, int length) {
        trial.copyFrom(now);
        trial.length = length;
        for (int round = 0; round < rounds; round++) {
            for (int step = 0; step < many; step++) {
                trial.access(client, from + step, false);
            }
        }
    }

    private int differenceAhead(int what) {
        Tally after = trial.tally;
        Tally before = now.tally;
        switch (what) {
            case UPPER_HIT:
                return after.upperHits - before.upperHits;
            case LOWER_HIT:
                return after.lowerHits - before.lowerHits;
            case MISS:
                return after.misses - before.misses;
            case 3:
                return after.demoted - before.demoted;
            case 4:
                return trial.blocks.writtenBack - now.blocks.writtenBack;
            case 5:
                return trial.target;
            default:
                return after.scans - before.scans;
        }
    }

    /** A list of blocks, with places from 0 on. */
    private static final class Row {
        final int[] blocks;
        int size;

        Row() {
            blocks = new int[MOST_LOW];
        }

        int blockAt(int place) {
            return place >= 0 && place < size && place < blocks.length ? blocks[place] : NONE;
        }

        int placeOf(int block) {
            for (int place = 0; place < size && place < blocks.length; place++) {
                if (blocks[place] == block) {
                    return place;
                }
            }
            return NONE;
        }

        int howManyIn(int from, int to) {
            int many = 0;
            for (int place = 0; place < size && place < blocks.length; place++) {
                if (blocks[place] >= from && blocks[place] <= to) {
                    many++;
                }
            }
            return many;
        }

        void putFirst(int block) {
            if (size >= blocks.length) {
                return;
            }
            for (int place = size; place > 0; place--) {
                blocks[place] = blocks[place - 1];
            }
            blocks[0] = block;
            size++;
        }

        void takeOut(int block) {
            int kept = 0;
            for (int place = 0; place < size && place < blocks.length; place++) {
                if (blocks[place] != block) {
                    blocks[kept] = blocks[place];
                    kept++;
                }
            }
            size = kept;
        }

        void copyFrom(Row other) {
            size = other.size;
            for (int place = 0; place < size && place < blocks.length; place++) {
                blocks[place] = other.blockAt(place);
            }
        }
    }

    /** What belongs to each block: its value in the store, its unit, the list that it is a ghost of. */
    private static final class Blocks {
        private final int[] stored;
        private final int[] value;
        private final int[] owner;
        private final int[] since;
        private final int[] list;
        private final int[] ghostList;
        int head;
        int writtenBack;

        Blocks() {
            stored = new int[BLOCKS];
            value = new int[BLOCKS];
            owner = new int[BLOCKS];
            since = new int[BLOCKS];
            list = new int[BLOCKS];
            ghostList = new int[BLOCKS];
            for (int block = 0; block < BLOCKS; block++) {
                stored[block] = STORE_STEP * block % VALUES;
                value[block] = NONE;
                owner[block] = NONE;
                since[block] = NONE;
                list[block] = NONE;
                ghostList[block] = NONE;
            }
        }

        int storedOf(int block) {
            return block >= 0 && block < BLOCKS ? stored[block] : NONE;
        }

        int valueOf(int block) {
            return block >= 0 && block < BLOCKS ? value[block] : NONE;
        }

        int ownerOf(int block) {
            return block >= 0 && block < BLOCKS ? owner[block] : NONE;
        }

        int sinceOf(int block) {
            return block >= 0 && block < BLOCKS ? since[block] : NONE;
        }

        boolean isDirty(int block) {
            return block >= 0 && block < BLOCKS && since[block] != NONE;
        }

        int listOf(int block) {
            return block >= 0 && block < BLOCKS ? list[block] : NONE;
        }

        int ghostListOf(int block) {
            return block >= 0 && block < BLOCKS ? ghostList[block] : NONE;
        }

        void makeCleanUnit(int block) {
            if (block >= 0 && block < BLOCKS) {
                value[block] = stored[block];
                since[block] = NONE;
            }
        }

        void putUnitIn(int block, int newList) {
            if (block >= 0 && block < BLOCKS) {
                list[block] = newList;
            }
        }

        void dropUnit(int block) {
            if (block >= 0 && block < BLOCKS) {
                value[block] = NONE;
                owner[block] = NONE;
                since[block] = NONE;
                list[block] = NONE;
            }
        }

        void dropAll() {
            for (int block = 0; block < BLOCKS; block++) {
                value[block] = NONE;
                owner[block] = NONE;
                since[block] = NONE;
                list[block] = NONE;
                ghostList[block] = NONE;
            }
        }

        void makeGhostOf(int block, int newList) {
            if (block >= 0 && block < BLOCKS) {
                ghostList[block] = newList;
            }
        }

        void giveTo(int block, int client) {
            if (block >= 0 && block < BLOCKS) {
                owner[block] = client;
            }
        }

        void changeValue(int block, int newValue, int time) {
            if (block >= 0 && block < BLOCKS) {
                value[block] = newValue;
                if (since[block] == NONE) {
                    since[block] = time;
                }
            }
        }

        void writeBack(int block) {
            if (block >= 0 && block < BLOCKS) {
                stored[block] = value[block];
                since[block] = NONE;
                head = block + 1 == BLOCKS ? 0 : block + 1;
                writtenBack++;
            }
        }

        int writeBackSome(int most) {
            int done = 0;
            while (done < most && done < BLOCKS) {
                int block = dirtyAt(0);
                if (block == NONE) {
                    return done;
                }
                writeBack(block);
                done++;
            }
            return done;
        }

        int howManyDirty() {
            int many = 0;
            for (int block = 0; block < BLOCKS; block++) {
                if (since[block] != NONE) {
                    many++;
                }
            }
            return many;
        }

        /** The block of the dirty unit at this place of the order in which they are written back. */
        int dirtyAt(int index) {
            int before = 0;
            for (int step = 0; step < BLOCKS; step++) {
                int block = (head + step) % BLOCKS;
                if (isDirty(block)) {
                    if (before == index) {
                        return block;
                    }
                    before++;
                }
            }
            return NONE;
        }

        int rankOf(int wanted) {
            if (!isDirty(wanted)) {
                return NONE;
            }
            int before = 0;
            for (int step = 0; step < BLOCKS; step++) {
                int block = (head + step) % BLOCKS;
                if (block == wanted) {
                    return before;
                }
                if (isDirty(block)) {
                    before++;
                }
            }
            return NONE;
        }

        int dirtyLongest() {
            int found = NONE;
            for (int block = 0; block < BLOCKS; block++) {
                if (since[block] != NONE && (found == NONE || since[block] < sinceOf(found))) {
                    found = block;
                }
            }
            return found;
        }

        int howManyDirtySince(int latest) {
            int many = 0;
            for (int block = 0; block < BLOCKS; block++) {
                if (since[block] != NONE && since[block] <= latest) {
                    many++;
                }
            }
            return many;
        }

        int howManyDiffer() {
            int many = 0;
            for (int block = 0; block < BLOCKS; block++) {
                if (list[block] != NONE && value[block] != stored[block]) {
                    many++;
                }
            }
            return many;
        }

        int longestChain(int wanted) {
            int most = 0;
            int chain = 0;
            for (int block = 0; block < BLOCKS; block++) {
                boolean isInside = list[block] == wanted || ghostList[block] == wanted;
                chain = isInside ? chain + 1 : 0;
                most = Math.max(most, chain);
            }
            return most;
        }

        void copyFrom(Blocks other) {
            System.arraycopy(other.stored, 0, stored, 0, BLOCKS);
            System.arraycopy(other.value, 0, value, 0, BLOCKS);
            System.arraycopy(other.owner, 0, owner, 0, BLOCKS);
            System.arraycopy(other.since, 0, since, 0, BLOCKS);
            System.arraycopy(other.list, 0, list, 0, BLOCKS);
            System.arraycopy(other.ghostList, 0, ghostList, 0, BLOCKS);
            head = other.head;
            writtenBack = other.writtenBack;
        }
    }

    /** A client: its weight, its run, and the counts of its accesses. */
    private static final class Client {
        int weight;
        int run;
        int last;
        int reads;
        int writes;
        int upperHits;
        int lowerHits;
        int misses;

        Client() {
            last = NONE;
        }

        void startAfresh(int newWeight) {
            weight = newWeight;
            run = 0;
            last = NONE;
            reads = 0;
            writes = 0;
            upperHits = 0;
            lowerHits = 0;
            misses = 0;
        }

        /** What RUN would be with an access to this block. */
        int runWith(int block) {
            return last != NONE && block == last + 1 ? run + 1 : 1;
        }

        void countAccess(int kind, boolean forWrite) {
            if (forWrite) {
                writes++;
            } else {
                reads++;
            }
            if (kind == UPPER_HIT) {
                upperHits++;
            } else if (kind == LOWER_HIT) {
                lowerHits++;
            } else {
                misses++;
            }
        }

        int numberOf(int what) {
            switch (what) {
                case 0:
                    return weight;
                case 3:
                    return run;
                case 4:
                    return last;
                case 5:
                    return reads;
                case 6:
                    return writes;
                case 7:
                    return upperHits;
                case 8:
                    return lowerHits;
                default:
                    return misses;
            }
        }

        void copyFrom(Client other) {
            weight = other.weight;
            run = other.run;
            last = other.last;
            reads = other.reads;
            writes = other.writes;
            upperHits = other.upperHits;
            lowerHits = other.lowerHits;
            misses = other.misses;
        }
    }

    /** The counts of all accesses, and what the latest access moved. */
    private static final class Tally {
        int time;
        int upperHits;
        int lowerHits;
        int misses;
        int recentGhosts;
        int frequentGhosts;
        int demoted;
        int left;
        int scans;
        int demotedBlock;
        int leftBlock;

        Tally() {
            demotedBlock = NONE;
            leftBlock = NONE;
        }

        void countAccess(int kind, boolean isScan) {
            time++;
            demotedBlock = NONE;
            leftBlock = NONE;
            if (isScan) {
                scans++;
            }
            if (kind == UPPER_HIT) {
                upperHits++;
            } else if (kind == LOWER_HIT) {
                lowerHits++;
            } else {
                misses++;
            }
        }

        int numberOf(int what) {
            switch (what) {
                case 5:
                    return time;
                case 14:
                    return upperHits;
                case 15:
                    return lowerHits;
                case 16:
                    return misses;
                case 17:
                    return recentGhosts;
                case 18:
                    return frequentGhosts;
                case 19:
                    return demoted;
                case 20:
                    return left;
                default:
                    return scans;
            }
        }

        void copyFrom(Tally other) {
            time = other.time;
            upperHits = other.upperHits;
            lowerHits = other.lowerHits;
            misses = other.misses;
            recentGhosts = other.recentGhosts;
            frequentGhosts = other.frequentGhosts;
            demoted = other.demoted;
            left = other.left;
            scans = other.scans;
            demotedBlock = other.demotedBlock;
            leftBlock = other.leftBlock;
        }
    }

    /** All that an act can change: the layers, the ghosts, the store, the clients, the settings. */
    private static final class Cache {
        final Blocks blocks;
        final Tally tally;
        final Row recent;
        final Row frequent;
        final Row lower;
        final Row recentGhosts;
        final Row frequentGhosts;
        private final Client[] clients;
        private final int[] upperUnits;
        int clientCount;
        int length;
        int limit;
        int up;
        int low;
        int target;

        Cache() {
            blocks = new Blocks();
            tally = new Tally();
            recent = new Row();
            frequent = new Row();
            lower = new Row();
            recentGhosts = new Row();
            frequentGhosts = new Row();
            upperUnits = new int[MOST_CLIENTS];
            clients = new Client[MOST_CLIENTS];
            for (int number = 0; number < MOST_CLIENTS; number++) {
                clients[number] = new Client();
            }
            length = 4;
            limit = 8;
            up = 6;
            low = 10;
        }

        // ---- what there is

        Row rowOf(int list) {
            switch (list) {
                case RECENT:
                    return recent;
                case FREQUENT:
                    return frequent;
                case LOWER:
                    return lower;
                case RECENT_GHOSTS:
                    return recentGhosts;
                default:
                    return frequentGhosts;
            }
        }

        /** The client of this number; null if there is none. */
        private Client clientOf(int number) {
            boolean isThere = number >= 0 && number < clientCount && number < clients.length;
            return isThere ? clients[number] : null;
        }

        int weightOf(int number) {
            Client client = clientOf(number);
            return client == null ? 0 : client.weight;
        }

        int runAt(int number, int block) {
            Client client = clientOf(number);
            return client == null ? 1 : client.runWith(block);
        }

        int sumOfWeights() {
            int sum = 0;
            for (int number = 0; number < clientCount; number++) {
                Client client = clientOf(number);
                sum += client == null ? 0 : client.weight;
            }
            return sum;
        }

        int numberOf(int what) {
            switch (what) {
                case 0:
                    return length;
                case 1:
                    return limit;
                case 2:
                    return up;
                case 3:
                    return low;
                case 4:
                    return target;
                case 6:
                    return clientCount;
                case 7:
                case 8:
                case 9:
                case 10:
                case 11:
                    return rowOf(what - COUNT_FIRST_LIST).size;
                case 12:
                    return blocks.howManyDirty();
                case 13:
                    return blocks.head;
                case 21:
                    return blocks.writtenBack;
                default:
                    return tally.numberOf(what);
            }
        }

        int numberOfClient(int number, int what) {
            Client client = clientOf(number);
            if (client == null) {
                return NONE;
            }
            switch (what) {
                case 1:
                    return upperUnitsOf(number);
                case 2:
                    return howManyOwned(lower, number);
                case 10:
                    return unitsAbove(number, upperUnitsOf(number), sumOfWeights()) > 0 ? 1 : 0;
                default:
                    return client.numberOf(what);
            }
        }

        int numberOfBlock(int block, int what) {
            switch (what) {
                case 0:
                    return blocks.listOf(block);
                case 1:
                    return placeOfUnit(block);
                case 2:
                    return blocks.valueOf(block);
                case 3:
                    return blocks.ownerOf(block);
                case 4:
                    return blocks.sinceOf(block);
                case 5:
                    return blocks.ghostListOf(block);
                default:
                    return blocks.storedOf(block);
            }
        }

        private int placeOfUnit(int block) {
            int list = blocks.listOf(block);
            return list == NONE ? NONE : rowOf(list).placeOf(block);
        }

        int ownedBlock(int number, int list, int index) {
            Row row = rowOf(list);
            int before = 0;
            for (int place = 0; place < row.size; place++) {
                int block = row.blockAt(place);
                if (blocks.ownerOf(block) == number) {
                    if (before == index) {
                        return block;
                    }
                    before++;
                }
            }
            return NONE;
        }

        int sumOfAges(int list) {
            Row row = rowOf(list);
            int sum = 0;
            for (int place = 0; place < row.size; place++) {
                int block = row.blockAt(place);
                if (blocks.isDirty(block)) {
                    sum += tally.time - blocks.sinceOf(block);
                }
            }
            return sum;
        }

        private int howManyOwned(Row row, int number) {
            int many = 0;
            for (int place = 0; place < row.size; place++) {
                if (blocks.ownerOf(row.blockAt(place)) == number) {
                    many++;
                }
            }
            return many;
        }

        int upperUnitsOf(int number) {
            return howManyOwned(recent, number) + howManyOwned(frequent, number);
        }

        /** Units above the share of a client, times the sum of all weights: greater than 0 is too much. */
        int unitsAbove(int number, int units, int sum) {
            Client client = clientOf(number);
            return client == null ? 0 : units * sum - up * client.weight;
        }

        // ---- clients and settings

        int addOne(int weight) {
            if (clientCount >= clients.length) {
                return NONE;
            }
            int number = clientCount;
            clientCount++;
            Client client = clientOf(number);
            if (client != null) {
                client.startAfresh(weight);
            }
            return number;
        }

        int changeWeight(int number, int weight) {
            Client client = clientOf(number);
            if (client == null) {
                return NONE;
            }
            int previous = client.weight;
            client.weight = weight;
            return previous;
        }

        int changeSetting(int what, int value) {
            int previous = what == SET_LENGTH ? length : limit;
            if (what == SET_LENGTH) {
                length = value;
            } else {
                limit = value;
            }
            return previous;
        }

        int reshape(int newUp, int newLow) {
            int units = recent.size + frequent.size + lower.size;
            blocks.writeBackSome(BLOCKS);
            blocks.dropAll();
            recent.size = 0;
            frequent.size = 0;
            lower.size = 0;
            recentGhosts.size = 0;
            frequentGhosts.size = 0;
            target = 0;
            up = newUp;
            low = newLow;
            return units;
        }

        // ---- accesses

        /** A client reads or writes a block, all but the value of a write; answers the kind of hit. */
        int access(int number, int block, boolean forWrite) {
            Client client = clientOf(number);
            if (client == null) {
                return MISS;
            }
            client.run = client.runWith(block);
            client.last = block;
            boolean isScan = client.run >= length;
            int kind = kindOf(block);
            client.countAccess(kind, forWrite);
            tally.countAccess(kind, isScan);
            if (kind == UPPER_HIT) {
                if (!isScan) {
                    makeMostFrequent(block);
                }
            } else if (isScan) {
                scanInLower(block);
            } else {
                bringToUpper(block);
            }
            blocks.giveTo(block, number);
            return kind;
        }

        private int kindOf(int block) {
            int list = blocks.listOf(block);
            if (list == NONE) {
                return MISS;
            }
            return list == LOWER ? LOWER_HIT : UPPER_HIT;
        }

        private void makeMostFrequent(int block) {
            rowOf(blocks.listOf(block)).takeOut(block);
            frequent.putFirst(block);
            blocks.putUnitIn(block, FREQUENT);
        }

        private void scanInLower(int block) {
            if (blocks.listOf(block) == LOWER) {
                lower.takeOut(block);
            } else {
                makeRoomInLower();
                blocks.makeCleanUnit(block);
                blocks.putUnitIn(block, LOWER);
            }
            lower.putFirst(block);
        }

        private void bringToUpper(int block) {
            if (blocks.listOf(block) == LOWER) {
                lower.takeOut(block);
            } else {
                blocks.makeCleanUnit(block);
            }
            int ghostList = blocks.ghostListOf(block);
            learnFrom(ghostList);
            loseGhost(block);
            int demoted = unitToDemote(ghostList == FREQUENT_GHOSTS);
            if (demoted != NONE) {
                makeRoomInLower();
                demote(demoted);
            }
            int list = ghostList == NONE ? RECENT : FREQUENT;
            rowOf(list).putFirst(block);
            blocks.putUnitIn(block, list);
        }

        /** An access to a ghost moves the target towards the list that the ghost left. */
        private void learnFrom(int ghostList) {
            int ofRecent = recentGhosts.size;
            int ofFrequent = frequentGhosts.size;
            if (ghostList == RECENT_GHOSTS) {
                tally.recentGhosts++;
                int ratio = ofRecent == 0 ? 0 : ofFrequent / ofRecent;
                target = Math.min(up, target + Math.max(1, ratio));
            } else if (ghostList == FREQUENT_GHOSTS) {
                tally.frequentGhosts++;
                int ratio = ofFrequent == 0 ? 0 : ofRecent / ofFrequent;
                target = Math.max(0, target - Math.max(1, ratio));
            }
        }

        private void loseGhost(int block) {
            int ghostList = blocks.ghostListOf(block);
            if (ghostList != NONE) {
                rowOf(ghostList).takeOut(block);
                blocks.makeGhostOf(block, NONE);
            }
        }

        // ---- room

        /** The block of the unit that makes room in the upper layer; NONE if there is room. */
        int unitToDemote(boolean wasFrequent) {
            if (recent.size + frequent.size < up) {
                return NONE;
            }
            Row row = isRecentTooLong(wasFrequent) ? recent : frequent;
            for (int number = 0; number < MOST_CLIENTS; number++) {
                upperUnits[number] = 0;
            }
            addOwners(recent);
            addOwners(frequent);
            int sum = sumOfWeights();
            for (int place = row.size - 1; place >= 0; place--) {
                int owner = blocks.ownerOf(row.blockAt(place));
                if (owner >= 0 && owner < MOST_CLIENTS
                        && unitsAbove(owner, upperUnits[owner], sum) > 0) {
                    return row.blockAt(place);
                }
            }
            return row.blockAt(row.size - 1);
        }

        private boolean isRecentTooLong(boolean wasFrequent) {
            if (recent.size == 0) {
                return false;
            }
            return recent.size > target || recent.size == target && wasFrequent
                    || frequent.size == 0;
        }

        private void addOwners(Row row) {
            for (int place = 0; place < row.size; place++) {
                int owner = blocks.ownerOf(row.blockAt(place));
                if (owner >= 0 && owner < MOST_CLIENTS) {
                    upperUnits[owner]++;
                }
            }
        }

        private void demote(int block) {
            boolean isRecent = blocks.listOf(block) == RECENT;
            Row ghosts = isRecent ? recentGhosts : frequentGhosts;
            rowOf(isRecent ? RECENT : FREQUENT).takeOut(block);
            if (ghosts.size >= up) {
                loseGhost(ghosts.blockAt(ghosts.size - 1));
            }
            ghosts.putFirst(block);
            blocks.makeGhostOf(block, isRecent ? RECENT_GHOSTS : FREQUENT_GHOSTS);
            lower.putFirst(block);
            blocks.putUnitIn(block, LOWER);
            tally.demoted++;
            tally.demotedBlock = block;
        }

        /** The block of the unit that makes room in LOWER; NONE if there is room. */
        int unitToLeave() {
            if (lower.size < low) {
                return NONE;
            }
            for (int place = lower.size - 1; place >= 0; place--) {
                int block = lower.blockAt(place);
                if (!blocks.isDirty(block)) {
                    return block;
                }
            }
            return lower.blockAt(lower.size - 1);
        }

        private void makeRoomInLower() {
            int block = unitToLeave();
            if (block == NONE) {
                return;
            }
            if (blocks.isDirty(block)) {
                blocks.writeBack(block);
            }
            lower.takeOut(block);
            blocks.dropUnit(block);
            tally.left++;
            tally.leftBlock = block;
        }

        // ---- writes, forgetting

        void finishWrite(int block, int value) {
            blocks.changeValue(block, value, tally.time);
            int tooMany = blocks.howManyDirty() - limit;
            if (tooMany > 0) {
                blocks.writeBackSome(tooMany);
            }
        }

        boolean loseBlock(int block) {
            int list = blocks.listOf(block);
            loseGhost(block);
            if (list == NONE) {
                return false;
            }
            rowOf(list).takeOut(block);
            blocks.dropUnit(block);
            return true;
        }

        void copyFrom(Cache other) {
            blocks.copyFrom(other.blocks);
            tally.copyFrom(other.tally);
            recent.copyFrom(other.recent);
            frequent.copyFrom(other.frequent);
            lower.copyFrom(other.lower);
            recentGhosts.copyFrom(other.recentGhosts);
            frequentGhosts.copyFrom(other.frequentGhosts);
            clientCount = other.clientCount;
            length = other.length;
            limit = other.limit;
            up = other.up;
            low = other.low;
            target = other.target;
            for (int number = 0; number < clientCount; number++) {
                Client mine = clientOf(number);
                Client theirs = other.clientOf(number);
                if (mine != null && theirs != null) {
                    mine.copyFrom(theirs);
                }
            }
        }
    }

    /** The states ahead of the latest acts, in a ring. */
    private static final class History {
        private final Cache[] states;
        private int next;
        int count;

        History() {
            states = new Cache[ACTS_KEPT];
            for (int index = 0; index < ACTS_KEPT; index++) {
                states[index] = new Cache();
            }
        }

        void keep(Cache cache) {
            Cache state = next >= 0 && next < ACTS_KEPT ? states[next] : null;
            if (state == null) {
                return;
            }
            state.copyFrom(cache);
            next = (next + 1) % ACTS_KEPT;
            count = Math.min(ACTS_KEPT, count + 1);
        }

        /** Brings the latest state back into the cache; answers whether there was one. */
        boolean takeBack(Cache cache) {
            int latest = next == 0 ? ACTS_KEPT - 1 : next - 1;
            Cache state = latest >= 0 && latest < ACTS_KEPT ? states[latest] : null;
            if (count == 0 || state == null) {
                return false;
            }
            cache.copyFrom(state);
            next = latest;
            count--;
            return true;
        }
    }

    /** The text of a trace, its commands once it is parsed, and its error. */
    private static final class Trace {
        static final int READ = 1;
        static final int WRITE = 2;
        static final int FLUSH = 3;
        private static final int TO = 4;
        private static final int OTHER_WORD = 5;
        private static final int NUMBER = 6;
        private static final int SEMICOLON = 7;
        private static final int STRAY = 8;
        private static final int END = 9;
        private static final int TEN = 10;
        /** Beyond every range, so a number of any length can stop growing there. */
        private static final int GREAT = 1000;

        final int[] verbs;
        final int[] clients;
        final int[] firsts;
        final int[] seconds;
        int commandCount;
        int size;
        int errorKind;
        int errorPlace;
        private final int[] text;
        private int cursor;
        private int tokenKind;
        private int tokenStart;
        private int tokenNumber;

        Trace() {
            text = new int[TEXT_ROOM];
            verbs = new int[MOST_COMMANDS];
            clients = new int[MOST_COMMANDS];
            firsts = new int[MOST_COMMANDS];
            seconds = new int[MOST_COMMANDS];
            errorPlace = NONE;
        }

        void addByte(int sign) {
            if (size >= 0 && size < TEXT_ROOM) {
                text[size] = sign;
                size++;
            }
        }

        int partOf(int[] parts, int index) {
            return index >= 0 && index < parts.length ? parts[index] : NONE;
        }

        /** Reads the text into commands; answers whether it has no error. */
        boolean parse() {
            commandCount = 0;
            cursor = 0;
            errorKind = 0;
            errorPlace = NONE;
            nextToken();
            for (int turn = 0; turn <= TEXT_ROOM && errorKind == 0 && tokenKind != END; turn++) {
                parseCommand();
            }
            return errorKind == 0;
        }

        private void parseCommand() {
            int verb = tokenKind;
            if (verb != READ && verb != WRITE && verb != FLUSH) {
                fail(WRONG_TOKEN);
                return;
            }
            if (commandCount >= MOST_COMMANDS) {
                fail(TOO_MANY_COMMANDS);
                return;
            }
            nextToken();
            int client = NONE;
            int first;
            if (verb == FLUSH) {
                first = takeNumber(1, MOST_FLUSH);
            } else {
                client = takeNumber(0, MOST_CLIENTS - 1);
                first = takeNumber(0, BLOCKS - 1);
            }
            int second = first;
            if (verb == WRITE) {
                second = takeNumber(0, VALUES - 1);
            } else if (verb == READ && errorKind == 0 && tokenKind == TO) {
                nextToken();
                second = takeNumber(first, BLOCKS - 1);
            }
            takeSemicolon();
            verbs[commandCount] = verb;
            clients[commandCount] = client;
            firsts[commandCount] = first;
            seconds[commandCount] = second;
            commandCount++;
        }

        private void fail(int kind) {
            errorKind = kind;
            errorPlace = tokenStart;
        }

        private int takeNumber(int least, int most) {
            if (errorKind != 0) {
                return NONE;
            }
            if (tokenKind != NUMBER) {
                fail(WRONG_TOKEN);
                return NONE;
            }
            if (tokenNumber < least || tokenNumber > most) {
                fail(WRONG_NUMBER);
                return NONE;
            }
            int number = tokenNumber;
            nextToken();
            return number;
        }

        private void takeSemicolon() {
            if (errorKind != 0) {
                return;
            }
            if (tokenKind == SEMICOLON) {
                nextToken();
            } else {
                fail(WRONG_TOKEN);
            }
        }

        private void nextToken() {
            while (cursor < size && isBlank(signAt(cursor))) {
                cursor++;
            }
            tokenStart = cursor;
            if (cursor >= size) {
                tokenKind = END;
                return;
            }
            int sign = signAt(cursor);
            if (isLetter(sign)) {
                readWord();
            } else if (isDigit(sign)) {
                readNumber();
            } else {
                tokenKind = sign == ';' ? SEMICOLON : STRAY;
                cursor++;
            }
        }

        private void readWord() {
            while (cursor < size && isLetter(signAt(cursor))) {
                cursor++;
            }
            if (isWord("read")) {
                tokenKind = READ;
            } else if (isWord("write")) {
                tokenKind = WRITE;
            } else if (isWord("flush")) {
                tokenKind = FLUSH;
            } else if (isWord("to")) {
                tokenKind = TO;
            } else {
                tokenKind = OTHER_WORD;
            }
        }

        private boolean isWord(String word) {
            if (cursor - tokenStart != word.length()) {
                return false;
            }
            for (int index = 0; index < word.length(); index++) {
                int place = tokenStart + index;
                if (place < 0 || place >= TEXT_ROOM || text[place] != word.charAt(index)) {
                    return false;
                }
            }
            return true;
        }

        private void readNumber() {
            tokenKind = NUMBER;
            tokenNumber = 0;
            while (cursor < size && isDigit(signAt(cursor))) {
                tokenNumber = Math.min(GREAT, tokenNumber * TEN + signAt(cursor) - '0');
                cursor++;
            }
        }

        private int signAt(int index) {
            return index >= 0 && index < TEXT_ROOM ? text[index] : NONE;
        }

        private static boolean isBlank(int sign) {
            return sign == ' ' || sign == '\n';
        }

        private static boolean isLetter(int sign) {
            return sign >= 'a' && sign <= 'z';
        }

        private static boolean isDigit(int sign) {
            return sign >= '0' && sign <= '9';
        }
    }

    /** The bytes of the output. */
    private static final class Page {
        private static final int ROOM = MOST_LOW * 5;
        private static final int TEN = 10;

        private final int[] bytes;
        int size;

        Page() {
            bytes = new int[ROOM];
        }

        int byteAt(int index) {
            return index >= 0 && index < size && index < ROOM ? bytes[index] : NONE;
        }

        void addByte(int sign) {
            if (size >= 0 && size < ROOM) {
                bytes[size] = sign;
                size++;
            }
        }

        void addNumber(int number) {
            if (number >= TEN * TEN) {
                addByte('0' + number / (TEN * TEN) % TEN);
            }
            if (number >= TEN) {
                addByte('0' + number / TEN % TEN);
            }
            addByte('0' + number % TEN);
        }
    }
}
