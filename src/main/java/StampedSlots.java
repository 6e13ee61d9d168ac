/**
 * Event rows by slots of unlike sizes: things lie in slots of one to four cells and stand in a row
 * of their own order; handles name a slot and a stamp; walkers go through the row.
 */
public final class StampedSlots {
    public static final int NONE = -1;

    private static final int FIRST_CELLS = 16;
    private static final int MOST_CELLS = 64;
    private static final int MOST_GROWTHS = 2;
    private static final int STAMPS = 1000;
    private static final int MOST_VALUE = 999;
    private static final int MOST_SIZE = 4;
    private static final int PLAIN = 0;
    private static final int ONCE = 1;
    private static final int DOUBLE = 2;
    private static final int WALKERS = 4;
    private static final int MOST_SAVED = 6;
    private static final int MOST_CODES = 60;
    private static final int MOST_EVENTS = 9;
    private static final int DIGEST_EVENTS = 2;

    private static final int STANDS_AHEAD = 0;
    private static final int STANDS_ON_THING = 1;
    private static final int STANDS_ON_TOMBSTONE = 2;
    private static final int STANDS_BEHIND = 3;

    private final State now;
    private final State trial;
    private final History history;
    private final ThingText buffer;

    public StampedSlots() {
        now = new State();
        trial = new State();
        history = new History();
        buffer = new ThingText();
    }

    // ---- things

    public int put(int value, int size, int kind)
            throws IllegalArgumentException, IllegalStateException {
        if (!isThing(value, size, kind)) {
            throw new IllegalArgumentException("value, size or kind is out of range");
        }
        if (now.slots.lowestFor(size) == NONE) {
            throw new IllegalStateException("there is no room");
        }
        history.save(now);
        return now.slots.handleOf(now.addAt(now.row.size(), value, size, kind));
    }

    public int putBehind(int handle, int value, int size, int kind)
            throws IndexOutOfBoundsException, IllegalArgumentException, IllegalStateException {
        if (now.slots.whyRefused(handle) != 0) {
            throw new IndexOutOfBoundsException("the handle is refused");
        }
        if (!isThing(value, size, kind)) {
            throw new IllegalArgumentException("value, size or kind is out of range");
        }
        if (now.slots.lowestFor(size) == NONE) {
            throw new IllegalStateException("there is no room");
        }
        history.save(now);
        int behind = now.row.indexOf(handle / STAMPS) + 1;
        return now.slots.handleOf(now.addAt(behind, value, size, kind));
    }

    public int remove(int handle) throws IndexOutOfBoundsException {
        if (now.slots.whyRefused(handle) != 0) {
            throw new IndexOutOfBoundsException("the handle is refused");
        }
        int begin = handle / STAMPS;
        int value = now.slots.valueAt(begin);
        history.save(now);
        now.drop(begin);
        return value;
    }

    public int change(int handle, int value)
            throws IndexOutOfBoundsException, IllegalArgumentException {
        if (now.slots.whyRefused(handle) != 0) {
            throw new IndexOutOfBoundsException("the handle is refused");
        }
        if (!isValue(value)) {
            throw new IllegalArgumentException("the value is out of range");
        }
        int begin = handle / STAMPS;
        int previous = now.slots.valueAt(begin);
        history.save(now);
        now.slots.setValue(begin, value);
        return previous;
    }

    // ---- walkers

    public int restart(int walker) throws IndexOutOfBoundsException {
        if (!isWalker(walker)) {
            throw new IndexOutOfBoundsException("there is no such walker");
        }
        int stood = now.row.standOf(walker);
        history.save(now);
        now.row.sendAhead(walker);
        return stood;
    }

    public int goOn(int walker) throws IndexOutOfBoundsException {
        if (!isWalker(walker)) {
            throw new IndexOutOfBoundsException("there is no such walker");
        }
        history.save(now);
        now.row.sendOn(walker);
        return now.slots.handleOf(now.row.thingUnder(walker));
    }

    public int take(int walker) throws IndexOutOfBoundsException, IllegalStateException {
        if (!isWalker(walker)) {
            throw new IndexOutOfBoundsException("there is no such walker");
        }
        int begin = now.row.thingUnder(walker);
        if (begin == NONE) {
            throw new IllegalStateException("the walker does not stand on a thing");
        }
        int value = now.slots.valueAt(begin);
        history.save(now);
        now.drop(begin);
        return value;
    }

    // ---- events

    public int fire() {
        history.save(now);
        return now.fireThings();
    }

    public int together() {
        history.save(now);
        return now.moveThings();
    }

    // ---- texts

    public int append(int code) throws IllegalArgumentException, IllegalStateException {
        if (code < 33 || code > 126) {
            throw new IllegalArgumentException("the code is not 33 to 126");
        }
        if (buffer.isFull()) {
            throw new IllegalStateException("the buffer is full");
        }
        buffer.add(code);
        return buffer.size();
    }

    public int clearBuffer() {
        int length = buffer.size();
        buffer.empty();
        return length;
    }

    public int firstError() {
        return buffer.firstWrong();
    }

    public int putAll() throws IllegalArgumentException {
        if (!buffer.isComplete()) {
            throw new IllegalArgumentException("the buffer is not complete things as a text");
        }
        history.save(now);
        int many = putParts();
        buffer.empty();
        return many;
    }

    public int undo() throws IllegalStateException {
        if (history.size() == 0) {
            throw new IllegalStateException("there is no saved state");
        }
        history.bringBack(now);
        return history.size();
    }

    // ---- looks; nothing is changed

    public int refusal(int handle) {
        return now.slots.whyRefused(handle);
    }

    public int thing(int handle, int what)
            throws IndexOutOfBoundsException, IllegalArgumentException {
        if (now.slots.whyRefused(handle) != 0) {
            throw new IndexOutOfBoundsException("the handle is refused");
        }
        int begin = handle / STAMPS;
        switch (what) {
            case 0:
                return now.slots.valueAt(begin);
            case 1:
                return now.slots.sizeAt(begin);
            case 2:
                return now.slots.kindAt(begin);
            case 3:
                return now.slots.timesFired(begin);
            case 4:
                return now.row.placeOf(begin);
            case 5:
                return now.row.walkersOn(now.row.indexOf(begin));
            default:
                throw new IllegalArgumentException("what is not 0 to 5");
        }
    }

    public int at(int place) throws IllegalArgumentException {
        if (place < 0) {
            throw new IllegalArgumentException("the place is below 0");
        }
        return now.slots.handleOf(now.row.thingAtPlace(place));
    }

    public int cell(int cell, int what) throws IndexOutOfBoundsException, IllegalArgumentException {
        if (!now.slots.isCell(cell)) {
            throw new IndexOutOfBoundsException("it is not a cell of the store");
        }
        switch (what) {
            case 0:
                return now.slots.stampAt(cell);
            case 1:
                return now.slots.handleOf(now.slots.ownerOf(cell));
            default:
                throw new IllegalArgumentException("what is not 0 or 1");
        }
    }

    public int walker(int walker, int what)
            throws IndexOutOfBoundsException, IllegalArgumentException {
        if (!isWalker(walker)) {
            throw new IndexOutOfBoundsException("there is no such walker");
        }
        switch (what) {
            case 0:
                return now.row.standOf(walker);
            case 1:
                return now.slots.handleOf(now.row.thingUnder(walker));
            case 2:
                return now.row.thingsBehind(walker);
            default:
                throw new IllegalArgumentException("what is not 0 to 2");
        }
    }

    public int count(int what) throws IllegalArgumentException {
        switch (what) {
            case 0:
                return now.row.things();
            case 1:
                return now.row.tombstones();
            case 2:
                return now.slots.cellsNow();
            case 3:
                return now.slots.freeCells();
            case 4:
                return now.slots.sumOfValues();
            case 5:
                return now.events;
            case 6:
                return now.thingsPut;
            case 7:
                return now.thingsRemoved;
            case 8:
                return now.thingsMoved;
            case 9:
                return history.size();
            default:
                throw new IllegalArgumentException("what is not 0 to 9");
        }
    }

    // ---- what would be; nothing is changed

    public int begins(int size) throws IllegalArgumentException {
        if (!isSize(size)) {
            throw new IllegalArgumentException("the size is out of range");
        }
        return now.slots.lowestFor(size);
    }

    public int gap(int what) throws IllegalArgumentException {
        switch (what) {
            case 0:
                return now.slots.longestGap();
            case 1:
                return now.slots.beginOfLongestGap();
            default:
                throw new IllegalArgumentException("what is not 0 or 1");
        }
    }

    public int ifFired(int events, int what) throws IllegalArgumentException {
        if (events < 1 || events > MOST_EVENTS || what < 0 || what > 2) {
            throw new IllegalArgumentException("events or what is out of range");
        }
        int sum = tryEvents(events);
        if (what == 0) {
            return sum;
        }
        return what == 1 ? trial.row.things() : trial.slots.cellsNow();
    }

    public int room(int size, boolean isTogether) throws IllegalArgumentException {
        if (!isSize(size)) {
            throw new IllegalArgumentException("the size is out of range");
        }
        return isTogether ? now.slots.freeCells() / size : now.slots.roomFor(size);
    }

    public double fullness() {
        int cells = now.slots.cellsNow();
        if (cells <= 0) {
            return 0.0;
        }
        return (double) (cells - now.slots.freeCells()) / (double) cells;
    }

    public long digest() {
        long hash = 3251;
        for (int what = 0; what <= 9; what++) {
            hash = 31 * hash + count(what);
        }
        hash = hashThings(hash);
        hash = hashCellsAndWalkers(hash);
        hash = hashGaps(hash);
        hash = 31 * hash + tryEvents(DIGEST_EVENTS);
        hash = 31 * hash + trial.row.things();
        hash = 31 * hash + trial.slots.cellsNow();
        hash = hashRoom(hash);
        return hashBuffer(hash);
    }

    private long hashThings(long before) {
        long hash = before;
        int things = now.row.things();
        for (int place = 0; place < things; place++) {
            int handle = at(place);
            hash = 31 * hash + handle;
            for (int what = 0; what <= 5; what++) {
                hash = 31 * hash + thing(handle, what);
            }
        }
        return hash;
    }

    private long hashCellsAndWalkers(long before) {
        long hash = before;
        int cells = now.slots.cellsNow();
        for (int number = 0; number < cells; number++) {
            hash = 31 * hash + cell(number, 0);
            hash = 31 * hash + cell(number, 1);
        }
        for (int number = 0; number < WALKERS; number++) {
            for (int what = 0; what <= 2; what++) {
                hash = 31 * hash + walker(number, what);
            }
        }
        return hash;
    }

    private long hashGaps(long before) {
        long hash = before;
        for (int size = 1; size <= MOST_SIZE; size++) {
            hash = 31 * hash + begins(size);
        }
        hash = 31 * hash + gap(0);
        return 31 * hash + gap(1);
    }

    private long hashRoom(long before) {
        long hash = before;
        for (int size = 1; size <= MOST_SIZE; size++) {
            hash = 31 * hash + room(size, false);
            hash = 31 * hash + room(size, true);
        }
        return 31 * hash + bitsOfShare(fullness());
    }

    /** Fires events in the trial state alone, and returns their sums together. */
    private int tryEvents(int events) {
        trial.copyFrom(now);
        int sum = 0;
        for (int event = 0; event < events; event++) {
            sum += trial.fireThings();
        }
        return sum;
    }

    private long hashBuffer(long before) {
        int length = buffer.size();
        long hash = 31 * before + length;
        for (int index = 0; index < length; index++) {
            hash = 31 * hash + buffer.codeAt(index);
        }
        return hash;
    }

    /**
     * The bits as Double.doubleToLongBits tells them, which is not at hand here. A share is 0, or
     * from 1/64 to 1, and a whole number of 64ths, so six doublings bring it to 1 or more and no
     * bit is lost.
     */
    private static long bitsOfShare(double share) {
        if (share <= 0.0) {
            return 0L;
        }
        double rest = share;
        long exponent = 1023;
        for (int doubling = 0; doubling < 6 && rest < 1.0; doubling++) {
            rest = rest * 2.0;
            exponent--;
        }
        return (exponent << 52) + (long) ((rest - 1.0) * 4503599627370496.0);
    }

    private int putParts() {
        int many = 0;
        int length = buffer.size();
        int start = 0;
        for (int part = 0; part < MOST_CODES && start < length; part++) {
            int star = buffer.indexOf('*', start);
            int end = buffer.indexOf(',', start);
            int value = buffer.numberIn(start, star);
            int size = buffer.numberIn(star + 1, star + 2);
            int kind = kindOfSign(buffer.codeAt(end - 1));
            if (now.addAt(now.row.size(), value, size, kind) != NONE) {
                many++;
            }
            start = end + 1;
        }
        return many;
    }

    private static int kindOfSign(int code) {
        if (code == '!') {
            return ONCE;
        }
        return code == '+' ? DOUBLE : PLAIN;
    }

    private static boolean isThing(int value, int size, int kind) {
        return isValue(value) && isSize(size) && kind >= PLAIN && kind <= DOUBLE;
    }

    private static boolean isValue(int value) {
        return value >= 0 && value <= MOST_VALUE;
    }

    private static boolean isSize(int size) {
        return size >= 1 && size <= MOST_SIZE;
    }

    private static boolean isWalker(int number) {
        return number >= 0 && number < WALKERS;
    }

    /** The cells with their stamps, and the things in them, each known by the cell where it begins. */
    private static final class Slots {
        private int cells;
        private final int[] stamps;
        private final int[] owners;
        private final int[] sizes;
        private final int[] values;
        private final int[] kinds;
        private final int[] fired;

        Slots() {
            cells = FIRST_CELLS;
            stamps = new int[MOST_CELLS];
            owners = new int[MOST_CELLS];
            sizes = new int[MOST_CELLS];
            values = new int[MOST_CELLS];
            kinds = new int[MOST_CELLS];
            fired = new int[MOST_CELLS];
            for (int number = 0; number < MOST_CELLS; number++) {
                owners[number] = NONE;
            }
        }

        void copyFrom(Slots other) {
            cells = other.cells;
            System.arraycopy(other.stamps, 0, stamps, 0, MOST_CELLS);
            System.arraycopy(other.owners, 0, owners, 0, MOST_CELLS);
            System.arraycopy(other.sizes, 0, sizes, 0, MOST_CELLS);
            System.arraycopy(other.values, 0, values, 0, MOST_CELLS);
            System.arraycopy(other.kinds, 0, kinds, 0, MOST_CELLS);
            System.arraycopy(other.fired, 0, fired, 0, MOST_CELLS);
        }

        boolean isCell(int number) {
            return number >= 0 && number < cells && number < MOST_CELLS;
        }

        int cellsNow() {
            return cells;
        }

        int stampAt(int number) {
            return isCell(number) ? stamps[number] : 0;
        }

        int ownerOf(int number) {
            return isCell(number) ? owners[number] : NONE;
        }

        int sizeAt(int begin) {
            return isCell(begin) ? sizes[begin] : 0;
        }

        int valueAt(int begin) {
            return isCell(begin) ? values[begin] : 0;
        }

        int kindAt(int begin) {
            return isCell(begin) ? kinds[begin] : PLAIN;
        }

        int timesFired(int begin) {
            return isCell(begin) ? fired[begin] : 0;
        }

        int handleOf(int begin) {
            return isCell(begin) ? begin * STAMPS + stamps[begin] : NONE;
        }

        int whyRefused(int handle) {
            if (handle < 0 || !isCell(handle / STAMPS)) {
                return 1;
            }
            if (stampAt(handle / STAMPS) != handle % STAMPS) {
                return 2;
            }
            return sizeAt(handle / STAMPS) == 0 ? 3 : 0;
        }

        /**
         * Cells that growth would bring count as free: they lie above all others, so the lowest
         * begin is the same as if the store grew only when it has to.
         */
        int lowestFor(int size) {
            int run = 0;
            for (int number = 0; number < MOST_CELLS; number++) {
                run = owners[number] == NONE ? run + 1 : 0;
                if (run == size) {
                    return number - size + 1;
                }
            }
            return NONE;
        }

        void occupy(int begin, int value, int size, int kind) {
            growTo(begin + size);
            if (!isCell(begin)) {
                return;
            }
            sizes[begin] = size;
            values[begin] = value;
            kinds[begin] = kind;
            fired[begin] = 0;
            giveCells(begin, size, begin);
        }

        private void growTo(int needed) {
            for (int growth = 0; growth < MOST_GROWTHS; growth++) {
                if (cells < needed && cells < MOST_CELLS) {
                    cells = 2 * cells;
                }
            }
        }

        private void giveCells(int begin, int size, int owner) {
            for (int number = begin; number < begin + size; number++) {
                if (isCell(number)) {
                    owners[number] = owner;
                }
            }
        }

        void release(int begin) {
            if (!isCell(begin)) {
                return;
            }
            giveCells(begin, sizes[begin], NONE);
            sizes[begin] = 0;
            stamps[begin] = (stamps[begin] + 1) % STAMPS;
        }

        void carry(int begin, int target) {
            int value = valueAt(begin);
            int size = sizeAt(begin);
            int kind = kindAt(begin);
            int times = timesFired(begin);
            release(begin);
            occupy(target, value, size, kind);
            setTimesFired(target, times);
        }

        void setValue(int begin, int value) {
            if (isCell(begin)) {
                values[begin] = value;
            }
        }

        void setTimesFired(int begin, int times) {
            if (isCell(begin)) {
                fired[begin] = times;
            }
        }

        int freeCells() {
            return roomFor(1);
        }

        int sumOfValues() {
            int sum = 0;
            for (int number = 0; number < cells; number++) {
                if (sizeAt(number) > 0) {
                    sum += valueAt(number);
                }
            }
            return sum;
        }

        int roomFor(int size) {
            int many = 0;
            int run = 0;
            for (int number = 0; number < cells; number++) {
                run = ownerOf(number) == NONE ? run + 1 : 0;
                if (run == size) {
                    many++;
                    run = 0;
                }
            }
            return many;
        }

        int longestGap() {
            int longest = 0;
            int run = 0;
            for (int number = 0; number < cells; number++) {
                run = ownerOf(number) == NONE ? run + 1 : 0;
                longest = Math.max(longest, run);
            }
            return longest;
        }

        int beginOfLongestGap() {
            int longest = 0;
            int begin = NONE;
            int run = 0;
            for (int number = 0; number < cells; number++) {
                run = ownerOf(number) == NONE ? run + 1 : 0;
                if (run > longest) {
                    longest = run;
                    begin = number - run + 1;
                }
            }
            return begin;
        }
    }

    /** The order of the things, each by the cell where it begins, with tombstones and walkers. */
    private static final class Row {
        private static final int TOMBSTONE = NONE;
        private static final int AHEAD = -1;
        private static final int BEHIND = -2;
        // Each thing has a cell of its own, and each tombstone a walker.
        private static final int MOST_ENTRIES = MOST_CELLS + WALKERS;

        private int length;
        private final int[] entries;
        private final int[] stands;

        Row() {
            length = 0;
            entries = new int[MOST_ENTRIES];
            stands = new int[WALKERS];
            for (int number = 0; number < WALKERS; number++) {
                stands[number] = AHEAD;
            }
        }

        void copyFrom(Row other) {
            length = other.length;
            System.arraycopy(other.entries, 0, entries, 0, MOST_ENTRIES);
            System.arraycopy(other.stands, 0, stands, 0, WALKERS);
        }

        int size() {
            return length;
        }

        private boolean isEntry(int index) {
            return index >= 0 && index < length && index < MOST_ENTRIES;
        }

        /** The begin of the thing in an entry; NONE for a tombstone, and where no entry is. */
        private int thingIn(int index) {
            return isEntry(index) ? entries[index] : NONE;
        }

        int things() {
            return thingsFrom(0);
        }

        int tombstones() {
            return length - things();
        }

        private int thingsFrom(int first) {
            int many = 0;
            for (int index = Math.max(first, 0); index < length; index++) {
                if (thingIn(index) != NONE) {
                    many++;
                }
            }
            return many;
        }

        int thingAtPlace(int place) {
            int passed = 0;
            for (int index = 0; index < length; index++) {
                int begin = thingIn(index);
                if (begin != NONE) {
                    if (passed == place) {
                        return begin;
                    }
                    passed++;
                }
            }
            return NONE;
        }

        int placeOf(int begin) {
            int passed = 0;
            for (int index = 0; index < length && thingIn(index) != begin; index++) {
                if (thingIn(index) != NONE) {
                    passed++;
                }
            }
            return passed;
        }

        /** The index of the thing's entry; behind the last one if there is no such thing. */
        int indexOf(int begin) {
            for (int index = 0; index < length; index++) {
                if (thingIn(index) == begin) {
                    return index;
                }
            }
            return length;
        }

        int list(int[] target) {
            int many = 0;
            for (int index = 0; index < length; index++) {
                int begin = thingIn(index);
                if (begin != NONE && many < target.length) {
                    target[many] = begin;
                    many++;
                }
            }
            return many;
        }

        void insert(int index, int begin) {
            if (index < 0 || index > length || length >= MOST_ENTRIES) {
                return;
            }
            System.arraycopy(entries, index, entries, index + 1, length - index);
            entries[index] = begin;
            length++;
            for (int number = 0; number < WALKERS; number++) {
                if (stands[number] >= index) {
                    stands[number]++;
                }
            }
        }

        /** A tombstone on which no walker stands goes. */
        private void sweep(int index) {
            if (!isEntry(index) || entries[index] != TOMBSTONE || walkersOn(index) > 0) {
                return;
            }
            System.arraycopy(entries, index + 1, entries, index, length - index - 1);
            length--;
            for (int number = 0; number < WALKERS; number++) {
                if (stands[number] > index) {
                    stands[number]--;
                }
            }
        }

        void bury(int begin) {
            int index = indexOf(begin);
            if (isEntry(index)) {
                entries[index] = TOMBSTONE;
                sweep(index);
            }
        }

        void rename(int begin, int target) {
            int index = indexOf(begin);
            if (isEntry(index)) {
                entries[index] = target;
            }
        }

        int walkersOn(int index) {
            int many = 0;
            for (int number = 0; number < WALKERS; number++) {
                if (stands[number] == index) {
                    many++;
                }
            }
            return many;
        }

        int standOf(int walker) {
            int index = indexUnder(walker);
            if (index == BEHIND) {
                return STANDS_BEHIND;
            }
            if (index == AHEAD) {
                return STANDS_AHEAD;
            }
            return thingIn(index) != NONE ? STANDS_ON_THING : STANDS_ON_TOMBSTONE;
        }

        int thingUnder(int walker) {
            return thingIn(indexUnder(walker));
        }

        int thingsBehind(int walker) {
            int index = indexUnder(walker);
            return index == BEHIND ? 0 : thingsFrom(index + 1);
        }

        void sendAhead(int walker) {
            send(walker, AHEAD);
        }

        void sendOn(int walker) {
            int index = indexUnder(walker);
            if (index != BEHIND) {
                send(walker, nextThing(index + 1));
            }
        }

        private int indexUnder(int walker) {
            return isWalker(walker) ? stands[walker] : AHEAD;
        }

        private int nextThing(int first) {
            for (int index = first; index < length; index++) {
                if (thingIn(index) != NONE) {
                    return index;
                }
            }
            return BEHIND;
        }

        private void send(int walker, int target) {
            if (isWalker(walker)) {
                int left = stands[walker];
                stands[walker] = target;
                sweep(left);
            }
        }
    }

    /** All that undo brings back. */
    private static final class State {
        private final Slots slots;
        private final Row row;
        private final int[] toFire;
        private int events;
        private int thingsPut;
        private int thingsRemoved;
        private int thingsMoved;

        State() {
            slots = new Slots();
            row = new Row();
            toFire = new int[MOST_CELLS];
        }

        void copyFrom(State other) {
            slots.copyFrom(other.slots);
            row.copyFrom(other.row);
            events = other.events;
            thingsPut = other.thingsPut;
            thingsRemoved = other.thingsRemoved;
            thingsMoved = other.thingsMoved;
        }

        int addAt(int index, int value, int size, int kind) {
            int begin = slots.lowestFor(size);
            if (begin != NONE) {
                slots.occupy(begin, value, size, kind);
                row.insert(index, begin);
                thingsPut++;
            }
            return begin;
        }

        void drop(int begin) {
            slots.release(begin);
            row.bury(begin);
            thingsRemoved++;
        }

        /** A begin names the same thing until its turn: nothing but its own turn removes it. */
        int fireThings() {
            int many = row.list(toFire);
            int sum = 0;
            for (int turn = 0; turn < many; turn++) {
                int begin = toFire[turn];
                int value = slots.valueAt(begin);
                int kind = slots.kindAt(begin);
                sum += value;
                slots.setTimesFired(begin, slots.timesFired(begin) + 1);
                if (kind == ONCE) {
                    drop(begin);
                } else if (kind == DOUBLE) {
                    addAt(row.size(), value, slots.sizeAt(begin), PLAIN);
                }
            }
            events++;
            return sum;
        }

        /** A target is never above its thing, so all that begin below have made way before. */
        int moveThings() {
            int moved = 0;
            int target = 0;
            int cells = slots.cellsNow();
            for (int begin = 0; begin < cells; begin++) {
                int size = slots.sizeAt(begin);
                if (size > 0 && begin != target) {
                    slots.carry(begin, target);
                    row.rename(begin, target);
                    moved++;
                }
                target += size;
            }
            thingsMoved += moved;
            return moved;
        }
    }

    /** The saved states, the oldest first. */
    private static final class History {
        private final State[] states;
        private int length;

        History() {
            length = 0;
            states = new State[MOST_SAVED];
            for (int index = 0; index < MOST_SAVED; index++) {
                states[index] = new State();
            }
        }

        int size() {
            return length;
        }

        void save(State state) {
            if (length >= MOST_SAVED) {
                dropOldest();
            }
            if (length < 0 || length >= MOST_SAVED) {
                return;
            }
            State latest = states[length];
            if (latest != null) {
                latest.copyFrom(state);
                length++;
            }
        }

        /** The oldest object goes to the end of the array, to be used again. */
        private void dropOldest() {
            State oldest = states[0];
            for (int index = 1; index < MOST_SAVED; index++) {
                states[index - 1] = states[index];
            }
            states[MOST_SAVED - 1] = oldest;
            length = MOST_SAVED - 1;
        }

        void bringBack(State state) {
            if (length < 1 || length > MOST_SAVED) {
                return;
            }
            length--;
            State latest = states[length];
            if (latest != null) {
                state.copyFrom(latest);
            }
        }
    }

    /** The buffer, read as things as a text. */
    private static final class ThingText {
        private static final int WRONG = -1;
        private static final int PART_AHEAD = 0;
        private static final int ZERO = 1;
        private static final int ONE_DIGIT = 2;
        private static final int TWO_DIGITS = 3;
        private static final int THREE_DIGITS = 4;
        private static final int SIZE_AHEAD = 5;
        private static final int SIZE_READ = 6;
        private static final int SIGN_READ = 7;

        private final int[] codes;
        private int length;

        ThingText() {
            codes = new int[MOST_CODES];
            length = 0;
        }

        int size() {
            return length;
        }

        boolean isFull() {
            return length >= MOST_CODES;
        }

        void add(int code) {
            if (length >= 0 && length < MOST_CODES) {
                codes[length] = code;
                length++;
            }
        }

        void empty() {
            length = 0;
        }

        int codeAt(int index) {
            return index >= 0 && index < length && index < MOST_CODES ? codes[index] : 0;
        }

        /** The index of the first such character from an index on; the length if there is none. */
        int indexOf(int code, int first) {
            for (int index = first; index < length; index++) {
                if (codeAt(index) == code) {
                    return index;
                }
            }
            return length;
        }

        int numberIn(int first, int end) {
            int number = 0;
            for (int index = first; index < end && index < length; index++) {
                number = 10 * number + codeAt(index) - '0';
            }
            return number;
        }

        int firstWrong() {
            int state = PART_AHEAD;
            for (int index = 0; index < length; index++) {
                state = stateBehind(state, codeAt(index));
                if (state == WRONG) {
                    return index;
                }
            }
            return length;
        }

        boolean isComplete() {
            int state = PART_AHEAD;
            for (int index = 0; index < length; index++) {
                state = stateBehind(state, codeAt(index));
            }
            return state == SIZE_READ || state == SIGN_READ;
        }

        private static int stateBehind(int state, int code) {
            switch (state) {
                case PART_AHEAD:
                    return firstDigit(code);
                case ZERO:
                case THREE_DIGITS:
                    return code == '*' ? SIZE_AHEAD : WRONG;
                case ONE_DIGIT:
                    return laterDigit(code, TWO_DIGITS);
                case TWO_DIGITS:
                    return laterDigit(code, THREE_DIGITS);
                case SIZE_AHEAD:
                    return code >= '1' && code <= '4' ? SIZE_READ : WRONG;
                case SIZE_READ:
                    return behindSize(code);
                case SIGN_READ:
                    return code == ',' ? PART_AHEAD : WRONG;
                default:
                    return WRONG;
            }
        }

        private static int firstDigit(int code) {
            if (code == '0') {
                return ZERO;
            }
            return code >= '1' && code <= '9' ? ONE_DIGIT : WRONG;
        }

        private static int laterDigit(int code, int ifDigit) {
            if (code == '*') {
                return SIZE_AHEAD;
            }
            return code >= '0' && code <= '9' ? ifDigit : WRONG;
        }

        private static int behindSize(int code) {
            if (code == ',') {
                return PART_AHEAD;
            }
            return code == '!' || code == '+' ? SIGN_READ : WRONG;
        }
    }
}
