/** Each promise of the document by its number: ordinary inputs, the edges it names, wrong inputs. */
public final class PromiseTest {
    private static final Class<?> INDEX = IndexOutOfBoundsException.class;
    private static final Class<?> ARGUMENT = IllegalArgumentException.class;
    private static final Class<?> STATE = IllegalStateException.class;

    private static int wrong = 0;
    private static int promise = 0;

    private interface Call {
        long answer();
    }

    private static void due(String what, long want, long got) {
        if (got != want) {
            wrong++;
            System.out.println("promise " + promise + ": " + what + " answered " + got + ", due is " + want);
        }
    }

    /** The call throws exactly this, and changes nothing that digest() sees. */
    private static void thrown(StampedSlots x, String what, Class<?> want, Call call) {
        long before = x.digest();
        try {
            long got = call.answer();
            wrong++;
            System.out.println("promise " + promise + ": " + what + " answered " + got
                    + ", due is " + want.getSimpleName());
        } catch (RuntimeException e) {
            if (e.getClass() != want) {
                wrong++;
                System.out.println("promise " + promise + ": " + what + " threw " + e.getClass().getName()
                        + ", due is " + want.getSimpleName());
            }
        }
        due(what + ", the digest behind it", before, x.digest());
    }

    private static void row(StampedSlots x, int... handles) {
        due("things", handles.length, x.count(0));
        for (int i = 0; i < handles.length; i++) {
            due("at(" + i + ")", handles[i], x.at(i));
        }
        due("at behind the last", -1, x.at(handles.length));
    }

    private static void type(StampedSlots x, String text) {
        x.clearBuffer();
        for (int i = 0; i < text.length(); i++) {
            x.append(text.charAt(i));
        }
    }

    private static StampedSlots with(String text) {
        StampedSlots x = new StampedSlots();
        type(x, text);
        x.putAll();
        return x;
    }

    private static StampedSlots full() {
        StampedSlots x = new StampedSlots();
        for (int i = 0; i < 16; i++) {
            x.put(i, 4, 0);
        }
        return x;
    }

    private static void newObject() {
        StampedSlots x = new StampedSlots();
        for (int what = 0; what <= 9; what++) {
            due("count(" + what + ")", what == 2 || what == 3 ? 16 : 0, x.count(what));
        }
        for (int walker = 0; walker < 4; walker++) {
            due("walker ahead", 0, x.walker(walker, 0));
        }
        for (int cell = 0; cell < 16; cell++) {
            due("stamp", 0, x.cell(cell, 0));
            due("free cell", -1, x.cell(cell, 1));
        }
        due("empty buffer", 0, x.clearBuffer());
        due("NONE", -1, StampedSlots.NONE);
        row(x);
    }

    private static void put() {
        StampedSlots x = new StampedSlots();
        due("put", 0, x.put(0, 1, 0));
        due("put", 1000, x.put(999, 4, 2));
        due("put", 5000, x.put(7, 2, 1));
        row(x, 0, 1000, 5000);
        due("value", 999, x.thing(1000, 0));
        due("size", 4, x.thing(1000, 1));
        due("kind", 2, x.thing(1000, 2));
        due("puts", 3, x.count(6));
        due("saved", 3, x.count(9));
        x.remove(1000);
        due("into the hole", 1001, x.put(1, 3, 0));
        due("too big for the hole's rest", 7000, x.put(1, 2, 0));
        due("into the hole's rest", 4000, x.put(1, 1, 0));
        row(x, 0, 5000, 1001, 7000, 4000);
        thrown(x, "put(-1, 1, 0)", ARGUMENT, () -> x.put(-1, 1, 0));
        thrown(x, "put(1000, 1, 0)", ARGUMENT, () -> x.put(1000, 1, 0));
        thrown(x, "put(0, 0, 0)", ARGUMENT, () -> x.put(0, 0, 0));
        thrown(x, "put(0, 5, 0)", ARGUMENT, () -> x.put(0, 5, 0));
        thrown(x, "put(0, 1, -1)", ARGUMENT, () -> x.put(0, 1, -1));
        thrown(x, "put(0, 1, 3)", ARGUMENT, () -> x.put(0, 1, 3));
        thrown(x, "put of extremes", ARGUMENT,
                () -> x.put(Integer.MIN_VALUE, Integer.MAX_VALUE, Integer.MIN_VALUE));
        growth();
        StampedSlots y = full();
        thrown(y, "put without room", STATE, () -> y.put(0, 1, 0));
        thrown(y, "put out of range without room", ARGUMENT, () -> y.put(0, 9, 0));
        due("put at the very end", 60001, putAfterRemoval(y, 60000));
    }

    private static int putAfterRemoval(StampedSlots x, int handle) {
        x.remove(handle);
        return x.put(3, 4, 1);
    }

    private static void growth() {
        StampedSlots x = with("0*4,1*4,2*4,3*2");
        due("cells", 16, x.count(2));
        due("across the old end", 14000, x.put(9, 3, 0));
        due("cells", 32, x.count(2));
        due("no growth when it fits", 17000, x.put(9, 4, 0));
        due("cells", 32, x.count(2));
        StampedSlots y = with("0*4,1*4,2*4,3*4,4*4,5*4,6*4,7*4");
        due("cells", 32, y.count(2));
        due("up to 64", 32000, y.put(9, 1, 0));
        due("cells", 64, y.count(2));
    }

    private static void putBehind() {
        StampedSlots x = with("1*1,2*1,3*1");
        due("behind the first", 3000, x.putBehind(0, 4, 2, 1));
        row(x, 0, 3000, 1000, 2000);
        due("behind the last", 5000, x.putBehind(2000, 5, 1, 2));
        row(x, 0, 3000, 1000, 2000, 5000);
        due("kind", 2, x.thing(5000, 2));
        due("puts", 5, x.count(6));
        x.goOn(0);
        x.goOn(0);
        x.take(0);
        due("ahead of the tombstone", 3001, x.putBehind(0, 6, 1, 0));
        row(x, 0, 3001, 1000, 2000, 5000);
        due("the new one is not behind the walker", 3, x.walker(0, 2));
        due("goOn", 1000, x.goOn(0));
        thrown(x, "a stale handle", INDEX, () -> x.putBehind(3000, 1, 1, 0));
        thrown(x, "a stale handle and a wrong size", INDEX, () -> x.putBehind(3000, 1, 9, 0));
        thrown(x, "a wrong value", ARGUMENT, () -> x.putBehind(0, 1000, 1, 0));
        thrown(x, "a wrong size", ARGUMENT, () -> x.putBehind(0, 1, 0, 0));
        thrown(x, "a wrong kind", ARGUMENT, () -> x.putBehind(0, 1, 1, 3));
        StampedSlots y = full();
        thrown(y, "no room", STATE, () -> y.putBehind(0, 1, 1, 0));
        thrown(y, "no room, a wrong kind", ARGUMENT, () -> y.putBehind(0, 1, 1, 3));
        thrown(y, "no room, a stale handle", INDEX, () -> y.putBehind(1, 1, 1, 0));
    }

    private static void remove() {
        StampedSlots x = with("1*2,2*3,3*1");
        due("remove", 2, x.remove(2000));
        row(x, 0, 5000);
        due("free at once", 13, x.count(3));
        due("removed", 1, x.count(7));
        due("no tombstone", 0, x.count(1));
        due("stamp", 1, x.cell(2, 0));
        due("the stamp of a later cell stays", 0, x.cell(3, 0));
        due("saved", 2, x.count(9));
        x.goOn(1);
        x.goOn(3);
        due("remove under walkers", 1, x.remove(0));
        due("tombstone", 1, x.count(1));
        row(x, 5000);
        due("walker on a tombstone", 2, x.walker(1, 0));
        thrown(x, "remove twice", INDEX, () -> x.remove(0));
        thrown(x, "remove nothing", INDEX, () -> x.remove(1));
        thrown(x, "remove below 0", INDEX, () -> x.remove(-1));
        thrown(x, "remove outside", INDEX, () -> x.remove(16000));
        stampsGrow();
    }

    /** An object lasts 512 calls, so no stamp can be seen to go beyond 999. */
    private static void stampsGrow() {
        StampedSlots x = new StampedSlots();
        for (int i = 0; i < 255; i++) {
            due("put", i, x.put(5, 1, 0));
            due("remove", 5, x.remove(i));
        }
        due("stamp", 255, x.cell(0, 0));
    }

    private static void change() {
        StampedSlots x = with("1*2,2*3+");
        due("change", 2, x.change(2000, 999));
        due("change", 999, x.change(2000, 0));
        due("value", 0, x.thing(2000, 0));
        due("kind stays", 2, x.thing(2000, 2));
        due("saved", 3, x.count(9));
        due("stamp stays", 0, x.cell(2, 0));
        thrown(x, "below 0", ARGUMENT, () -> x.change(2000, -1));
        thrown(x, "above 999", ARGUMENT, () -> x.change(2000, 1000));
        thrown(x, "refused", INDEX, () -> x.change(2001, 5));
        thrown(x, "refused and out of range", INDEX, () -> x.change(3000, 1000));
    }

    private static void restart() {
        StampedSlots x = with("1*1,2*1");
        due("ahead", 0, x.restart(0));
        x.goOn(0);
        due("on a thing", 1, x.restart(0));
        due("ahead again", 0, x.walker(0, 0));
        x.goOn(0);
        x.goOn(3);
        x.remove(0);
        due("on a tombstone", 2, x.restart(0));
        due("another one holds it", 1, x.count(1));
        due("the last one leaves", 2, x.restart(3));
        due("tombstones", 0, x.count(1));
        x.goOn(0);
        x.goOn(0);
        due("behind", 3, x.restart(0));
        due("saved", 6, x.count(9));
        thrown(x, "walker -1", INDEX, () -> x.restart(-1));
        thrown(x, "walker 4", INDEX, () -> x.restart(4));
    }

    private static void goOn() {
        StampedSlots x = with("1*1,2*1,3*1");
        due("first", 0, x.goOn(2));
        due("second", 1000, x.goOn(2));
        x.goOn(0);
        x.goOn(0);
        x.goOn(0);
        x.take(0);
        due("the tombstone is passed over", -1, x.goOn(2));
        due("behind", 3, x.walker(2, 0));
        due("stays behind", -1, x.goOn(2));
        due("put at the end", 2001, x.put(4, 1, 0));
        due("stays behind also then", -1, x.goOn(2));
        due("still behind", 3, x.walker(2, 0));
        due("from the tombstone on", 2001, x.goOn(0));
        due("it is gone", 0, x.count(1));
        due("another walker", 0, x.goOn(1));
        due("saved also if nothing changes", 6, x.count(9));
        StampedSlots y = new StampedSlots();
        due("an empty row", -1, y.goOn(0));
        due("behind the empty row", 3, y.walker(0, 0));
        due("saved", 1, y.count(9));
        crowd();
        thrown(x, "walker -1", INDEX, () -> x.goOn(-1));
        thrown(x, "walker 4", INDEX, () -> x.goOn(4));
    }

    /** The longest row that there can be: 64 things of one cell, and a tombstone for each walker. */
    private static void crowd() {
        StampedSlots x = new StampedSlots();
        for (int i = 0; i < 64; i++) {
            due("put", 1000 * i, x.put(i, 1, i % 3 == 2 ? 2 : 0));
        }
        for (int walker = 0; walker < 4; walker++) {
            for (int i = 0; i <= 63 - walker; i++) {
                due("goOn", 1000 * i, x.goOn(walker));
            }
            due("take", 63 - walker, x.take(walker));
        }
        for (int i = 60; i < 64; i++) {
            due("put again", 1000 * i + 1, x.put(i, 1, 0));
        }
        due("things", 64, x.count(0));
        due("tombstones", 4, x.count(1));
        due("free", 0, x.count(3));
        due("the last place", 63, x.thing(63001, 4));
        due("the sum, no room", 63 * 32, x.fire());
        for (int walker = 0; walker < 4; walker++) {
            due("behind it", 4, x.walker(walker, 2));
            due("from the tombstone on", 60001, x.goOn(walker));
        }
        due("no tombstones", 0, x.count(1));
        due("the last one's value", 63, x.remove(63001));
        row(x, firstBegins(63, 60));
    }

    private static int[] firstBegins(int many, int firstStamped) {
        int[] handles = new int[many];
        for (int i = 0; i < many; i++) {
            handles[i] = 1000 * i + (i >= firstStamped ? 1 : 0);
        }
        return handles;
    }

    private static void take() {
        StampedSlots x = with("11*2,12*1");
        thrown(x, "ahead", STATE, () -> x.take(0));
        x.goOn(0);
        due("take", 11, x.take(0));
        due("removed", 1, x.count(7));
        due("stays there", 2, x.walker(0, 0));
        due("stamp", 1, x.cell(0, 0));
        due("tombstone", 1, x.count(1));
        due("saved", 3, x.count(9));
        thrown(x, "on a tombstone", STATE, () -> x.take(0));
        x.goOn(0);
        x.goOn(0);
        thrown(x, "behind", STATE, () -> x.take(0));
        thrown(x, "walker 4", INDEX, () -> x.take(4));
        thrown(x, "walker -1", INDEX, () -> x.take(-1));
    }

    private static void fire() {
        StampedSlots x = with("1*2,20*3!,300*2+");
        x.goOn(0);
        x.goOn(0);
        due("the sum", 321, x.fire());
        row(x, 0, 5000, 2001);
        due("a tombstone under the walker", 2, x.walker(0, 0));
        due("fired", 1, x.thing(0, 3));
        due("fired", 1, x.thing(5000, 3));
        due("the new one is not fired", 0, x.thing(2001, 3));
        due("the new one is plain", 0, x.thing(2001, 2));
        due("its size", 2, x.thing(2001, 1));
        due("its value", 300, x.thing(2001, 0));
        due("events", 1, x.count(5));
        due("puts", 4, x.count(6));
        due("removals", 1, x.count(7));
        due("cells", 16, x.count(2));
        due("the second event", 601, x.fire());
        due("fired twice", 2, x.thing(5000, 3));
        due("fired once", 1, x.thing(2001, 3));
        due("undo", 4, x.undo());
        due("events", 1, x.count(5));
        StampedSlots y = new StampedSlots();
        due("nothing to fire", 0, y.fire());
        due("counted all the same", 1, y.count(5));
        due("saved all the same", 1, y.count(9));
        fireWithGrowth();
    }

    private static void fireWithGrowth() {
        StampedSlots x = with("9*4+,9*4+,9*4+,9*4+");
        due("the sum", 36, x.fire());
        due("grown", 32, x.count(2));
        x.fire();
        due("grown again", 64, x.count(2));
        due("sum", 9 * 12, x.fire());
        due("full", 16, x.count(0));
        due("sum, without room", 9 * 16, x.fire());
        due("full", 16, x.count(0));
        due("puts", 16, x.count(6));
        // A double ahead of the once-thing finds no room; behind it, it takes that one's cells.
        StampedSlots y = with("1*4+,1*4,1*4,1*4,1*4,1*4,1*4,1*4,1*4,1*4,1*4,1*4,1*4");
        type(y, "2*4!,3*4+,1*4");
        y.putAll();
        due("full", 0, y.count(3));
        y.fire();
        due("one removed and one put", 16, y.count(0));
        due("behind the row's end, in the once-thing's cells", 52001, y.at(15));
        due("its value", 3, y.thing(52001, 0));
    }

    private static void together() {
        StampedSlots x = with("1*1,2*3,3*2,4*1");
        x.putBehind(0, 5, 4, 2);
        x.goOn(0);
        x.goOn(0);
        x.goOn(0);
        x.fire();
        x.remove(4000);
        due("the walker's thing", 1000, x.walker(0, 1));
        due("moved", 3, x.together());
        row(x, 0, 5000, 1000, 4001, 9000);
        due("the walker stays on it", 1000, x.walker(0, 1));
        due("fired goes along", 1, x.thing(5000, 3));
        due("kind goes along", 2, x.thing(5000, 2));
        due("stamp of a left cell", 1, x.cell(7, 0));
        due("moved so far", 3, x.count(8));
        due("moved again", 0, x.together());
        due("moved so far", 3, x.count(8));
        due("saved also if nothing changes", 6, x.count(9));
        due("not removed by it", 1, x.count(7));
        // A thing moves into cells that overlap its own.
        StampedSlots y = with("1*1,2*4,3*4");
        y.remove(0);
        due("moved", 2, y.together());
        row(y, 1, 4000);
        due("left", 1, y.cell(1, 0));
        due("left", 1, y.cell(5, 0));
        due("entered", 0, y.cell(4, 0));
        due("owner", 1, y.cell(3, 1));
        due("owner", 4000, y.cell(4, 1));
        due("free", -1, y.cell(8, 1));
        StampedSlots z = full();
        for (int i = 0; i < 15; i++) {
            z.remove(i * 4000);
        }
        due("moved", 1, z.together());
        due("the store does not shrink", 64, z.count(2));
    }

    private static void append() {
        StampedSlots x = new StampedSlots();
        due("append", 1, x.append(33));
        due("append", 2, x.append(126));
        due("not undoable", 0, x.count(9));
        thrown(x, "32", ARGUMENT, () -> x.append(32));
        thrown(x, "127", ARGUMENT, () -> x.append(127));
        thrown(x, "-1", ARGUMENT, () -> x.append(-1));
        for (int i = 3; i <= 60; i++) {
            due("append", i, x.append('5'));
        }
        thrown(x, "the 61st", STATE, () -> x.append('5'));
        thrown(x, "the 61st, out of range", ARGUMENT, () -> x.append(0));
    }

    private static void clearBuffer() {
        StampedSlots x = new StampedSlots();
        due("empty", 0, x.clearBuffer());
        type(x, "1*2");
        due("three", 3, x.clearBuffer());
        due("empty then", 0, x.clearBuffer());
        due("not undoable", 0, x.count(9));
    }

    private static void firstError() {
        error("", 0);
        error("0", 1);
        error("0*1", 3);
        error("00", 1);
        error("01*1", 1);
        error("999*4", 5);
        error("1000", 3);
        error("10*", 3);
        error("109*", 4);
        error("*1", 0);
        error(",1*1", 0);
        error("-1*1", 0);
        error("1,", 1);
        error("12,", 2);
        error("123,", 3);
        error("1*0", 2);
        error("1*5", 2);
        error("1**", 2);
        error("1*11", 3);
        error("1*1!", 4);
        error("1*1!!", 4);
        error("1*1+!", 4);
        error("1*1-", 3);
        error("1*1,", 4);
        error("1*1,,", 4);
        error("1*1!,2*4+,0*1", 13);
        error("1*1!,2*4+,00*1", 11);
        error("x*1,x", 0);
        error("1/1", 1);
        error("1:1", 1);
        error("1!", 1);
        error(":", 0);
        error("/", 0);
    }

    private static void error(String text, int want) {
        StampedSlots x = new StampedSlots();
        type(x, text);
        due("firstError of " + text, want, x.firstError());
        due("nothing is changed", text.length(), x.clearBuffer());
    }

    private static void putAll() {
        StampedSlots x = new StampedSlots();
        x.put(8, 1, 0);
        type(x, "0*1,10*2!,999*4+");
        due("putAll", 3, x.putAll());
        row(x, 0, 1000, 2000, 4000);
        due("value", 10, x.thing(2000, 0));
        due("once", 1, x.thing(2000, 2));
        due("double", 2, x.thing(4000, 2));
        due("plain", 0, x.thing(1000, 2));
        due("size", 4, x.thing(4000, 1));
        due("value", 999, x.thing(4000, 0));
        due("one saved state", 2, x.count(9));
        due("cleared", 0, x.clearBuffer());
        due("undo", 1, x.undo());
        row(x, 0);
        due("the buffer is not restored", 0, x.clearBuffer());
        for (String text : new String[] {"", "1", "1*", "1*1,", "1*1;", "01*1", "1*1!,", "1*1,2", "12", "123", "0"}) {
            type(x, text);
            thrown(x, "putAll of " + text, ARGUMENT, () -> x.putAll());
        }
        leftOut();
    }

    private static void leftOut() {
        StampedSlots x = full();
        x.remove(60000);
        x.put(5, 1, 0);
        type(x, "1*4,2*2,3*2,4*1,5*1");
        due("those without room are left out", 2, x.putAll());
        due("first", 2, x.thing(61000, 0));
        due("second", 4, x.thing(63000, 0));
        type(x, "1*1");
        due("none is put", 0, x.putAll());
        due("saved all the same", 6, x.count(9));
        due("cleared all the same", 0, x.clearBuffer());
        StampedSlots y = new StampedSlots();
        type(y, "0*4,0*4,0*4,0*4,0*1,0*1,0*1,0*1,0*1,0*1,0*1,0*1,0*1,0*1,0*1");
        due("with growth", 15, y.putAll());
        due("grown", 32, y.count(2));
    }

    private static void undo() {
        StampedSlots x = new StampedSlots();
        thrown(x, "nothing saved", STATE, () -> x.undo());
        long[] digests = new long[9];
        for (int i = 0; i < 9; i++) {
            digests[i] = plainDigest(x);
            x.put(i, 4, 2);
        }
        due("at most 6", 6, x.count(9));
        x.append('1');
        for (int i = 8; i >= 3; i--) {
            due("undo", i - 3, x.undo());
            due("the state then", digests[i], plainDigest(x));
        }
        thrown(x, "the oldest are dropped", STATE, () -> x.undo());
        due("the buffer stays", 1, x.clearBuffer());
        undoOfAll();
        StampedSlots y = with("1*4!,2*4,3*4,4*2");
        y.goOn(1);
        y.goOn(1);
        y.put(9, 4, 0);
        y.fire();
        y.remove(8000);
        y.together();
        y.undo();
        y.undo();
        y.undo();
        due("events", 0, y.count(5));
        due("moves", 0, y.count(8));
        due("removals", 0, y.count(7));
        y.undo();
        due("cells", 16, y.count(2));
        due("puts", 4, y.count(6));
        y.undo();
        due("the walker", 0, y.walker(1, 1));
        due("the stale handle is good again", 0, y.refusal(0));
    }

    /** Each undoable call, undone at once, leaves all as it was, but for the saved states. */
    private static void undoOfAll() {
        for (int call = 0; call < 10; call++) {
            StampedSlots x = with("1*1!,2*2+,3*1,4*3,5*1");
            x.goOn(0);
            x.goOn(0);
            x.goOn(1);
            x.fire();
            x.remove(3000);
            type(x, "9*4");
            StampedSlots y = with("1*1!,2*2+,3*1,4*3,5*1");
            y.goOn(0);
            y.goOn(0);
            y.goOn(1);
            y.fire();
            y.remove(3000);
            type(y, "9*4");
            undoable(x, call);
            due("saved by call " + call, 6, x.count(9));
            due("undo of call " + call, 5, x.undo());
            if (call == 9) {
                type(x, "9*4");
            }
            y.change(1000, 2);
            due("one less in the other one", 5, y.undo());
            due("the state behind undo of call " + call, y.digest(), x.digest());
        }
    }

    private static void undoable(StampedSlots x, int call) {
        switch (call) {
            case 0: x.put(1, 4, 2); break;
            case 1: x.putBehind(1000, 1, 4, 0); break;
            case 2: x.remove(1000); break;
            case 3: x.change(1000, 77); break;
            case 4: x.restart(1); break;
            case 5: x.goOn(1); break;
            case 6: x.take(0); break;
            case 7: x.fire(); break;
            case 8: x.together(); break;
            default: x.putAll(); break;
        }
    }

    /** Some numbers of the state that do not depend on the saved states. */
    private static long plainDigest(StampedSlots x) {
        long hash = x.count(2);
        for (int i = 0; i < x.count(0); i++) {
            hash = 31 * hash + x.at(i);
        }
        return 31 * hash + x.count(4);
    }

    private static void refusal() {
        StampedSlots x = with("1*2,2*1");
        due("good", 0, x.refusal(0));
        due("good", 0, x.refusal(2000));
        due("within a thing", 3, x.refusal(1000));
        due("free", 3, x.refusal(3000));
        due("stamp", 2, x.refusal(1));
        due("stamp of a free cell", 2, x.refusal(15999));
        due("free", 3, x.refusal(15000));
        due("outside", 1, x.refusal(16000));
        due("below", 1, x.refusal(-1));
        due("least", 1, x.refusal(Integer.MIN_VALUE));
        due("most", 1, x.refusal(Integer.MAX_VALUE));
        x.remove(0);
        due("stale", 2, x.refusal(0));
        due("nothing begins", 3, x.refusal(1));
        due("put again", 1, x.put(4, 1, 0));
        due("good", 0, x.refusal(1));
        due("stale still", 2, x.refusal(0));
    }

    private static void thing() {
        StampedSlots x = with("7*3!,8*2+,9*1");
        x.goOn(0);
        x.goOn(1);
        x.goOn(1);
        x.goOn(2);
        x.goOn(2);
        x.fire();
        due("value", 8, x.thing(3000, 0));
        due("size", 2, x.thing(3000, 1));
        due("kind", 2, x.thing(3000, 2));
        due("fired", 1, x.thing(3000, 3));
        due("place without tombstones", 0, x.thing(3000, 4));
        due("place", 1, x.thing(5000, 4));
        due("walkers", 2, x.thing(3000, 5));
        due("no walkers", 0, x.thing(5000, 5));
        thrown(x, "stale", INDEX, () -> x.thing(0, 0));
        thrown(x, "stale, what 6", INDEX, () -> x.thing(0, 6));
        thrown(x, "what 6", ARGUMENT, () -> x.thing(3000, 6));
        thrown(x, "what -1", ARGUMENT, () -> x.thing(3000, -1));
    }

    private static void at() {
        StampedSlots x = with("7*3,8*2,9*1");
        x.goOn(0);
        x.take(0);
        row(x, 3000, 5000);
        due("far", -1, x.at(Integer.MAX_VALUE));
        thrown(x, "-1", ARGUMENT, () -> x.at(-1));
        thrown(x, "least", ARGUMENT, () -> x.at(Integer.MIN_VALUE));
    }

    private static void cell() {
        StampedSlots x = with("7*1,8*2");
        x.remove(0);
        due("stamp", 1, x.cell(0, 0));
        due("free", -1, x.cell(0, 1));
        due("first", 1000, x.cell(1, 1));
        due("second", 1000, x.cell(2, 1));
        due("stamp", 0, x.cell(15, 0));
        thrown(x, "16", INDEX, () -> x.cell(16, 0));
        thrown(x, "-1", INDEX, () -> x.cell(-1, 0));
        thrown(x, "16, 2", INDEX, () -> x.cell(16, 2));
        thrown(x, "0, 2", ARGUMENT, () -> x.cell(0, 2));
        thrown(x, "0, -1", ARGUMENT, () -> x.cell(0, -1));
        StampedSlots y = full();
        due("last", 60000, y.cell(63, 1));
        thrown(y, "64", INDEX, () -> y.cell(64, 0));
    }

    private static void walker() {
        StampedSlots x = with("7*1,8*2,9*1");
        due("ahead", 0, x.walker(3, 0));
        due("on none", -1, x.walker(3, 1));
        due("all behind it", 3, x.walker(3, 2));
        x.goOn(3);
        x.goOn(3);
        due("on a thing", 1, x.walker(3, 0));
        due("on it", 1000, x.walker(3, 1));
        due("behind it", 1, x.walker(3, 2));
        x.remove(1000);
        due("tombstone", 2, x.walker(3, 0));
        due("on none", -1, x.walker(3, 1));
        due("behind it", 1, x.walker(3, 2));
        x.goOn(1);
        due("tombstones count for nothing", 1, x.walker(1, 2));
        x.goOn(3);
        x.goOn(3);
        due("behind", 3, x.walker(3, 0));
        due("on none", -1, x.walker(3, 1));
        due("nothing behind it", 0, x.walker(3, 2));
        x.put(1, 1, 0);
        due("nothing behind it also then", 0, x.walker(3, 2));
        thrown(x, "4", INDEX, () -> x.walker(4, 0));
        thrown(x, "-1, 3", INDEX, () -> x.walker(-1, 3));
        thrown(x, "what 3", ARGUMENT, () -> x.walker(0, 3));
        thrown(x, "what -1", ARGUMENT, () -> x.walker(0, -1));
    }

    private static void count() {
        StampedSlots x = with("7*1!,8*2+,9*1");
        x.goOn(0);
        x.fire();
        x.remove(3000);
        x.together();
        int[] want = {2, 1, 16, 12, 16, 1, 4, 2, 2, 5};
        // 8*2+ at 1 and its copy at 4 remain; both move down.
        for (int what = 0; what <= 9; what++) {
            due("count(" + what + ")", want[what], x.count(what));
        }
        thrown(x, "10", ARGUMENT, () -> x.count(10));
        thrown(x, "-1", ARGUMENT, () -> x.count(-1));
    }

    private static void begins() {
        StampedSlots x = with("1*4,1*2,1*4,1*4");
        due("at the end", 14, x.begins(2));
        due("by growth", 14, x.begins(3));
        due("nothing is changed", 16, x.count(2));
        x.remove(4000);
        due("in the hole", 4, x.begins(2));
        due("behind it", 14, x.begins(3));
        StampedSlots y = full();
        due("no room", -1, y.begins(1));
        y.remove(8000);
        due("room", 8, y.begins(4));
        thrown(y, "0", ARGUMENT, () -> y.begins(0));
        thrown(y, "5", ARGUMENT, () -> y.begins(5));
    }

    private static void gap() {
        StampedSlots x = full();
        due("none", 0, x.gap(0));
        due("none", -1, x.gap(1));
        x.remove(40000);
        x.remove(20000);
        due("of several the lowest", 20, x.gap(1));
        due("four", 4, x.gap(0));
        x.remove(44000);
        due("eight", 8, x.gap(0));
        due("the longest", 40, x.gap(1));
        StampedSlots y = with("1*4,1*4,1*4,1*3");
        due("no growth", 1, y.gap(0));
        due("the last cell", 15, y.gap(1));
        y.remove(0);
        due("from the first cell on", 4, y.gap(0));
        due("the first cell", 0, y.gap(1));
        thrown(y, "2", ARGUMENT, () -> y.gap(2));
        thrown(y, "-1", ARGUMENT, () -> y.gap(-1));
    }

    private static void ifFired() {
        StampedSlots x = with("100*4+,20*1!,3*4");
        long before = x.digest();
        due("one", 123, x.ifFired(1, 0));
        due("two", 123 + 203, x.ifFired(2, 0));
        due("three", 123 + 203 + 303, x.ifFired(3, 0));
        due("things", 3, x.ifFired(1, 1));
        due("things", 4, x.ifFired(2, 1));
        due("cells", 16, x.ifFired(1, 2));
        due("cells", 32, x.ifFired(2, 2));
        due("cells", 64, x.ifFired(9, 2));
        due("things", 11, x.ifFired(9, 1));
        due("nothing is changed", before, x.digest());
        int sum = 0;
        for (int i = 0; i < 9; i++) {
            sum += x.fire();
        }
        due("the same as by firing", sum, with("100*4+,20*1!,3*4").ifFired(9, 0));
        thrown(x, "0 events", ARGUMENT, () -> x.ifFired(0, 0));
        thrown(x, "10 events", ARGUMENT, () -> x.ifFired(10, 0));
        thrown(x, "what 3", ARGUMENT, () -> x.ifFired(1, 3));
        thrown(x, "what -1", ARGUMENT, () -> x.ifFired(1, -1));
    }

    private static void room() {
        StampedSlots x = with("1*3,1*1,1*3,1*1,1*3");
        x.remove(0);
        x.remove(4000);
        x.remove(8000);
        due("3 and 3 and 8, by 1", 14, x.room(1, false));
        due("by 2", 1 + 1 + 4, x.room(2, false));
        due("by 3", 1 + 1 + 2, x.room(3, false));
        due("by 4", 2, x.room(4, false));
        due("together by 1", 14, x.room(1, true));
        due("together by 2", 7, x.room(2, true));
        due("together by 3", 4, x.room(3, true));
        due("together by 4", 3, x.room(4, true));
        due("nothing is changed", 3000, x.at(0));
        StampedSlots y = full();
        due("none", 0, y.room(1, true));
        thrown(y, "0", ARGUMENT, () -> y.room(0, false));
        thrown(y, "5", ARGUMENT, () -> y.room(5, true));
    }

    private static void fullness() {
        StampedSlots x = new StampedSlots();
        due("empty", Double.doubleToLongBits(0.0), Double.doubleToLongBits(x.fullness()));
        x.put(1, 3, 0);
        due("3 of 16", Double.doubleToLongBits(3.0 / 16), Double.doubleToLongBits(x.fullness()));
        due("full store", Double.doubleToLongBits(1.0), Double.doubleToLongBits(full().fullness()));
    }

    private static void digest() {
        digestAsTold(new StampedSlots());
        digestAsTold(full());
        StampedSlots x = with("1*3,2*1!,3*3+,4*1,5*3");
        x.goOn(0);
        x.goOn(0);
        x.goOn(3);
        x.remove(4000);
        type(x, "1*3!,~");
        digestAsTold(x);
        x.fire();
        digestAsTold(x);
        x.goOn(0);
        x.together();
        digestAsTold(x);
        // More things would take more than 512 calls; RangeTest tells their digests in another way.
        for (int i = 0; i <= 32; i++) {
            StampedSlots y = new StampedSlots();
            for (int j = 0; j < i; j++) {
                y.put(j, 1, j % 3);
            }
            digestAsTold(y);
        }
    }

    private static long hash;

    private static void add(long value) {
        hash = 31 * hash + value;
    }

    /** By the words of the promise, from the other calls' answers; the buffer is read by its own. */
    private static void digestAsTold(StampedSlots x) {
        long got = x.digest();
        hash = 3251;
        for (int what = 0; what <= 9; what++) {
            add(x.count(what));
        }
        int things = x.count(0);
        for (int place = 0; place < things; place++) {
            int handle = x.at(place);
            add(handle);
            for (int what = 0; what <= 5; what++) {
                add(x.thing(handle, what));
            }
        }
        int cells = x.count(2);
        for (int cell = 0; cell < cells; cell++) {
            add(x.cell(cell, 0));
            add(x.cell(cell, 1));
        }
        for (int walker = 0; walker < 4; walker++) {
            for (int what = 0; what <= 2; what++) {
                add(x.walker(walker, what));
            }
        }
        for (int size = 1; size <= 4; size++) {
            add(x.begins(size));
        }
        add(x.gap(0));
        add(x.gap(1));
        for (int what = 0; what <= 2; what++) {
            add(x.ifFired(2, what));
        }
        for (int size = 1; size <= 4; size++) {
            add(x.room(size, false));
            add(x.room(size, true));
        }
        add(Double.doubleToLongBits(x.fullness()));
        int length = x.clearBuffer();
        String text = length == 0 ? "" : "1*3!,~";
        add(length);
        for (int i = 0; i < length; i++) {
            add(text.charAt(i));
        }
        due("digest", hash, got);
        type(x, text);
    }

    public static void main(String[] args) {
        for (promise = 1; promise <= 27; promise++) {
            test(promise);
        }
        System.out.println(wrong == 0 ? "PromiseTest: all promises hold" : wrong + " answers are not as due");
        if (wrong != 0) {
            System.exit(1);
        }
    }

    private static void test(int number) {
        switch (number) {
            case 1: newObject(); break;
            case 2: put(); break;
            case 3: putBehind(); break;
            case 4: remove(); break;
            case 5: change(); break;
            case 6: restart(); break;
            case 7: goOn(); break;
            case 8: take(); break;
            case 9: fire(); break;
            case 10: together(); break;
            case 11: append(); break;
            case 12: clearBuffer(); break;
            case 13: firstError(); break;
            case 14: putAll(); break;
            case 15: undo(); break;
            case 16: refusal(); break;
            case 17: thing(); break;
            case 18: at(); break;
            case 19: cell(); break;
            case 20: walker(); break;
            case 21: count(); break;
            case 22: begins(); break;
            case 23: gap(); break;
            case 24: ifFired(); break;
            case 25: room(); break;
            case 26: fullness(); break;
            default: digest(); break;
        }
    }
}
