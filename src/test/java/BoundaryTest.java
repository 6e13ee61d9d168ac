/**
 * Each sentence that names a boundary case in the sections ahead of the promises, in the document's
 * order and by its own words, with a test of its own. RangeTest does the same for the promises.
 */
public final class BoundaryTest extends Check {
    private interface Use {
        long of(StampedSlots x);
    }

    private BoundaryTest() {
    }

    public static void main(String[] args) {
        slotsAndHandles();
        rowAndTombstones();
        walkers();
        firingAndMovingTogether();
        inputText();
        undo();
        exceptions();
        finish("BoundaryTest");
    }

    // ---- Slots, handles

    private static void slotsAndHandles() {
        sentence("What it is", "An object is used for at most 512 calls after it has been made",
                BoundaryTest::lastCall);
        sentence("Terms", "divisions are rounded down.", BoundaryTest::roundedDown);
        sentence("Slots, handles", "The store has 16 cells at first, then 32, then 64; cells are numbered from 0.",
                BoundaryTest::storeSizes);
        sentence("Slots, handles", "A thing takes a slot of 1 to 4 cells, one behind the other; it begins at the"
                + " lowest of them; no two things have a cell together.", BoundaryTest::slotOfEachSize);
        sentence("Slots, handles", "Each cell has a stamp, 0 to 999, at first 0.", BoundaryTest::stampsAtFirst);
        sentence("Slots, handles", "The handle of a thing is the cell at which it begins times 1000, and the stamp"
                + " of that cell.", BoundaryTest::leastAndMostHandle);
        sentence("Slots, handles", "When a thing leaves a slot (as it is removed or moved), the stamp of the cell at"
                + " which it began becomes 1 more", BoundaryTest::stampSteps);
        sentence("Slots, handles", "(behind 999 comes 0)", BoundaryTest::stampBehindTheLast);
        sentence("Slots, handles", "1: it is below 0, or its cell (the number divided by 1000) is not a cell of the"
                + " store;", BoundaryTest::firstReason);
        sentence("Slots, handles", "2: the cell's stamp is another one;", BoundaryTest::secondReason);
        sentence("Slots, handles", "3: no thing begins there.", BoundaryTest::thirdReason);
        sentence("Slots, handles", "A number is refused as a handle, for the first of these reasons that applies",
                BoundaryTest::orderOfReasons);
        sentence("Slots, handles", "A new thing of a size begins at the lowest cell from which on so many cells are"
                + " free.", BoundaryTest::lowestCell);
        sentence("Slots, handles", "If there is none, the store grows, once or twice, until there is one",
                BoundaryTest::growth);
        sentence("Slots, handles", "with 64 cells it does not grow.", BoundaryTest::noGrowth);
    }

    private static void lastCall() {
        StampedSlots x = new StampedSlots();
        x.put(3, 1, 0);
        for (int call = 2; call <= 511; call++) {
            due("call " + call, 3, x.fire());
        }
        due("call 512", 510, x.thing(0, 3));
    }

    private static void roundedDown() {
        StampedSlots x = with("1*4,2*4,3*4,4*3");
        due("15999 by 1000 is 15, a cell", 2, x.refusal(15999));
        due("16000 by 1000 is 16, none", 1, x.refusal(16000));
        due("-1 by 1000 is below 0", 1, x.refusal(-1));
        due("999 by 1000 is 0", 2, x.refusal(999));
        due("one free cell by two", 0, x.room(2, true));
        x.remove(4000);
        due("five free cells by two", 2, x.room(2, true));
        due("by three", 1, x.room(3, true));
        due("by four", 1, x.room(4, true));
        x.remove(12000);
        due("eight free cells by three", 2, x.room(3, true));
        // A share is no integer: it is not rounded.
        due("fullness", Double.doubleToLongBits(0.5), Double.doubleToLongBits(x.fullness()));
    }

    private static void storeSizes() {
        StampedSlots x = new StampedSlots();
        for (int i = 0; i < 16; i++) {
            storeEndsAt(x, i <= 4 ? 16 : i <= 8 ? 32 : 64);
            due("put", 4000 * i, x.put(0, 4, 0));
        }
        due("free ones", 0, x.count(3));
        storeEndsAt(x, 64);
    }

    private static void storeEndsAt(StampedSlots x, int cells) {
        due("cells", cells, x.count(2));
        due("the first cell", 0, x.cell(0, 0));
        due("the last cell", 0, x.cell(cells - 1, 0));
        thrown(x, "cell(-1, 0)", INDEX, () -> x.cell(-1, 0));
        thrown(x, "cell(" + cells + ", 0)", INDEX, () -> x.cell(cells, 0));
    }

    private static void slotOfEachSize() {
        for (int size = 1; size <= 4; size++) {
            StampedSlots x = new StampedSlots();
            x.put(0, 1, 0);
            due("of size " + size, 1000, x.put(0, size, 0));
            due("behind it", 1000 * (size + 1), x.put(0, 1, 0));
            due("ahead of it", 0, x.cell(0, 1));
            for (int cell = 1; cell <= size; cell++) {
                due("cell " + cell + " of size " + size, 1000, x.cell(cell, 1));
            }
            due("behind it", 1000 * (size + 1), x.cell(size + 1, 1));
            due("free", -1, x.cell(size + 2, 1));
            due("free ones", 14 - size, x.count(3));
            x.remove(1000);
            for (int cell = 0; cell <= size + 1; cell++) {
                int want = cell == 0 ? 0 : cell <= size ? -1 : 1000 * cell;
                due("cell " + cell + " behind the removal", want, x.cell(cell, 1));
            }
        }
        StampedSlots y = full();
        for (int cell = 59; cell <= 63; cell++) {
            due("cell " + cell, cell == 59 ? 56000 : 60000, y.cell(cell, 1));
        }
    }

    private static void stampsAtFirst() {
        StampedSlots x = new StampedSlots();
        stampsAreZero(x, 0, 16);
        filling(x, 5);
        stampsAreZero(x, 0, 32);
        filling(x, 4);
        stampsAreZero(x, 0, 64);
    }

    private static void filling(StampedSlots x, int many) {
        for (int i = 0; i < many; i++) {
            x.put(0, 4, 0);
        }
    }

    private static void stampsAreZero(StampedSlots x, int first, int end) {
        due("cells", end, x.count(2));
        for (int cell = first; cell < end; cell++) {
            due("the stamp of " + cell, 0, x.cell(cell, 0));
        }
    }

    private static void leastAndMostHandle() {
        StampedSlots x = filled(64, 1);
        due("the lowest cell", 0, x.at(0));
        due("the highest cell", 63000, x.at(63));
        x.remove(0);
        due("the lowest cell again", 1, x.put(7, 1, 0));
        x.remove(63000);
        due("the highest cell again", 63001, x.put(8, 1, 0));
        due("the value of the first", 7, x.thing(1, 0));
        due("the value of the last", 8, x.thing(63001, 0));
        // Two steps in three calls: the longest way up that 512 calls leave.
        StampedSlots y = with("4*1,5*1+");
        for (int i = 0; i < 160; i++) {
            due("a once-thing", 2000 + 2 * i, y.putBehind(0, 6, 1, 1));
            due("the sum", 15, y.fire());
            due("the plain one in its slot", 5, y.remove(2001 + 2 * i));
        }
        due("the stamp", 320, y.cell(2, 0));
    }

    private static void stampSteps() {
        StampedSlots x = with("1*2,2*1,3*1!,4*1,5*1+");
        x.remove(0);
        stamps(x, 1, 0, 0, 0, 0, 0);
        x.goOn(0);
        x.take(0);
        stamps(x, 1, 0, 1, 0, 0, 0);
        x.fire();
        stamps(x, 1, 0, 1, 1, 0, 0);
        row(x, 4000, 5000, 1);
        x.change(4000, 9);
        stamps(x, 1, 0, 1, 1, 0, 0);
        due("moved", 2, x.together());
        stamps(x, 1, 0, 1, 1, 1, 1);
        row(x, 1000, 2001, 1);
        x.undo();
        stamps(x, 1, 0, 1, 1, 0, 0);
        due("of the lowest", 5, x.remove(1));
        stamps(x, 2, 0, 1, 1, 0, 0);
        StampedSlots y = filled(64, 1);
        y.remove(63000);
        due("the last cell", 1, y.cell(63, 0));
        due("the one ahead of it", 0, y.cell(62, 0));
    }

    private static void stamps(StampedSlots x, int... want) {
        for (int cell = 0; cell < 16; cell++) {
            due("the stamp of " + cell, cell < want.length ? want[cell] : 0, x.cell(cell, 0));
        }
    }

    /**
     * No call takes a stamp more than one further, so 512 calls can't reach this sentence. The
     * object is used beyond them, where the document promises nothing and this program goes on.
     */
    private static void stampBehindTheLast() {
        StampedSlots x = new StampedSlots();
        for (int stamp = 0; stamp <= 999; stamp++) {
            due("put", stamp, x.put(5, 2, 0));
            due("remove", 5, x.remove(stamp));
            due("the stamp then", stamp == 999 ? 0 : stamp + 1, x.cell(0, 0));
        }
        due("no carry to the next cell", 0, x.cell(1, 0));
        due("from 0 again", 0, x.put(5, 2, 0));
        StampedSlots y = filled(2, 1);
        for (int stamp = 0; stamp < 999; stamp++) {
            y.remove(1000 + stamp);
            y.put(5, 1, 0);
        }
        due("the last handle", 1999, y.at(1));
        y.remove(0);
        due("moved from it", 1, y.together());
        due("the stamp by a move", 0, y.cell(1, 0));
        due("nothing begins there", 3, y.refusal(1000));
    }

    private static void refused(StampedSlots x, int why, int... numbers) {
        for (int number : numbers) {
            due("refusal(" + number + ")", why, x.refusal(number));
            if (why != 0) {
                thrown(x, "putBehind of " + number, INDEX, () -> x.putBehind(number, 0, 1, 0));
                thrown(x, "remove of " + number, INDEX, () -> x.remove(number));
                thrown(x, "change of " + number, INDEX, () -> x.change(number, 0));
                thrown(x, "thing of " + number, INDEX, () -> x.thing(number, 0));
            }
        }
    }

    private static void firstReason() {
        StampedSlots x = filled(4, 4);
        refused(x, 1, -1, -999, -1000, -1001, LEAST, LEAST + 1, 16000, 16001, 64000, MOST);
        refused(x, 0, 0, 12000);
        due("grown", 16000, x.put(0, 1, 0));
        refused(x, 0, 16000);
        refused(x, 1, -1, 32000, MOST);
        refused(x, 3, 31000);
        x.undo();
        refused(x, 1, 16000);
        StampedSlots y = filled(9, 4);
        refused(y, 3, 63000);
        refused(y, 2, 63999);
        refused(y, 1, 64000, 64999);
    }

    private static void secondReason() {
        StampedSlots x = with("1*2,2*1");
        refused(x, 2, 1, 999, 2001, 2999);
        x.remove(0);
        refused(x, 2, 0, 2);
        due("put again", 1, x.put(3, 1, 0));
        refused(x, 2, 0, 2);
        refused(x, 0, 1);
        x.remove(1);
        due("moved", 1, x.together());
        refused(x, 2, 2000, 0, 1);
        refused(x, 0, 2);
    }

    private static void thirdReason() {
        StampedSlots x = with("1*4,2*1");
        refused(x, 3, 1000, 2000, 3000, 5000, 15000);
        refused(x, 0, 0, 4000);
        x.remove(0);
        refused(x, 3, 1, 1000);
        x.together();
        refused(x, 3, 4001);
        refused(x, 0, 1);
    }

    private static void orderOfReasons() {
        StampedSlots x = with("1*4,2*1");
        // -1 divided by 1000 would be cell 0, and 16000 has the stamp 0, and nothing begins there.
        refused(x, 1, -1, -1000, 16000, 16999);
        // Nothing begins at 1 and at 15, but the stamp is looked at before.
        refused(x, 2, 1001, 1999, 15001, 15999);
        refused(x, 3, 1000, 15000);
    }

    private static void lowestCell() {
        StampedSlots x = with("0*4,0*1,0*3,0*1,0*4");
        x.remove(5000);
        due("one fits the hole of three", 5, x.begins(1));
        due("three fit it", 5, x.begins(3));
        due("four do not", 13, x.begins(4));
        due("put of three", 5001, x.put(0, 3, 0));
        due("the next three", 13000, x.put(0, 3, 0));
        StampedSlots y = with("0*3,0*1");
        y.remove(0);
        due("one cell too many for the hole", 4000, y.put(0, 4, 0));
        due("as many as the hole has", 1, y.put(0, 3, 0));
        StampedSlots z = with("0*1,0*2,0*2,0*1");
        z.remove(3000);
        z.remove(1000);
        due("two slots that are one hole", 1001, z.put(0, 4, 0));
        StampedSlots w = full();
        w.remove(40000);
        w.remove(20000);
        w.remove(60000);
        due("the lowest of three holes", 20001, w.put(0, 4, 0));
        due("the next", 40001, w.put(0, 2, 0));
        due("its rest", 42000, w.put(0, 1, 0));
        due("the last of it", 60001, w.put(0, 2, 0));
        due("the cell between", 43000, w.put(0, 1, 0));
        due("the very last two", 62000, w.put(0, 2, 0));
    }

    private static void growth() {
        StampedSlots x = with("0*4,0*4,0*4,0*2");
        due("it fits to the last cell", 14, x.begins(2));
        due("not by one cell", 14, x.begins(3));
        due("put to the last cell", 14000, x.put(0, 2, 0));
        due("no growth", 16, x.count(2));
        x.undo();
        due("put across the old end", 14000, x.put(0, 3, 0));
        due("growth", 32, x.count(2));
        due("the cell of the old end", 14000, x.cell(16, 1));
        StampedSlots y = with("0*4,0*4,0*4,0*4,0*4,0*4,0*4,0*2");
        due("32 cells", 32, y.count(2));
        due("across the second end", 30000, y.put(0, 4, 0));
        due("64 cells", 64, y.count(2));
        StampedSlots z = filled(16, 1);
        z.remove(5000);
        z.remove(7000);
        due("holes of one are too small for two", 16000, z.put(0, 2, 0));
        due("growth", 32, z.count(2));
        due("the hole takes one", 5001, z.put(0, 1, 0));
        growthTwiceInOneCall();
    }

    /** No single thing can need both growths; the things of one text, or several events, can. */
    private static void growthTwiceInOneCall() {
        StampedSlots x = new StampedSlots();
        type(x, repeated("0*4,", 14) + "0*4");
        due("all are put", 15, x.putAll());
        due("64 cells", 64, x.count(2));
        due("the last one", 56000, x.at(14));
        x.undo();
        due("16 again", 16, x.count(2));
        StampedSlots y = with("1*4+,1*4+,1*4+,1*4+");
        due("one event", 32, y.ifFired(1, 2));
        due("two events", 64, y.ifFired(2, 2));
        due("nothing is changed", 16, y.count(2));
    }

    private static void noGrowth() {
        StampedSlots x = full();
        for (int size = 1; size <= 4; size++) {
            int s = size;
            thrown(x, "put of size " + s, STATE, () -> x.put(0, s, 0));
            thrown(x, "putBehind of size " + s, STATE, () -> x.putBehind(0, 0, s, 0));
            due("begins", -1, x.begins(s));
        }
        StampedSlots y = fullOfHoles();
        due("holes", 16, y.count(3));
        for (int size = 2; size <= 4; size++) {
            int s = size;
            thrown(y, "put of size " + s + " into holes of one", STATE, () -> y.put(0, s, 0));
            due("begins", -1, y.begins(s));
        }
        due("one fits", 3001, y.put(0, 1, 0));
        type(y, "0*2,0*1,0*4");
        due("only the one that fits", 1, y.putAll());
        due("cells", 64, y.count(2));
    }

    // ---- The row, tombstones

    private static void rowAndTombstones() {
        sentence("The row", "All things are in a row.", BoundaryTest::allInARow);
        sentence("The row", "When a thing is removed, its slot is free at once", BoundaryTest::freeAtOnce);
        sentence("The row", "in the row it leaves a tombstone, if a walker stands on it",
                BoundaryTest::tombstoneUnderWalkers);
        sentence("The row", "the tombstone goes when the last walker leaves it.", BoundaryTest::lastWalkerLeaves);
        sentence("The row", "in the row it leaves a tombstone", BoundaryTest::mostTombstones);
        sentence("The row", "Tombstones count for nothing but walkers.", BoundaryTest::tombstonesCountForNothing);
        sentence("The row", "A thing has a value, 0 to 999", BoundaryTest::leastAndMostValue);
        sentence("The row", "0, plain", BoundaryTest::plain);
        sentence("The row", "1, once: it is removed when it is fired", BoundaryTest::once);
        sentence("The row", "2, double: when it is fired, it puts a plain thing with the same size and value at the"
                + " end of the row", BoundaryTest::twice);
        sentence("The row", "if there is room (also by growth)", BoundaryTest::twiceIfThereIsRoom);
        sentence("The row", "and a number of times that it was fired.", BoundaryTest::timesFired);
    }

    private static void allInARow() {
        row(new StampedSlots());
        row(filled(1, 1), 0);
        StampedSlots x = filled(64, 1);
        int[] handles = new int[64];
        for (int i = 0; i < 64; i++) {
            handles[i] = 1000 * i;
        }
        row(x, handles);
        StampedSlots y = filled(3, 1);
        y.remove(0);
        y.put(9, 1, 0);
        row(y, 1000, 2000, 1);
        due("ahead of all", 2000, y.at(1));
        y.putBehind(1, 8, 1, 0);
        y.putBehind(1000, 7, 1, 0);
        row(y, 1000, 4000, 2000, 1, 3000);
        y.remove(1000);
        y.remove(3000);
        row(y, 4000, 2000, 1);
    }

    /** 64 things, and a tombstone for each walker: no row is longer. */
    private static StampedSlots longestRow(int ahead) {
        StampedSlots x = filled(64, 1);
        for (int w = 0; w < 4; w++) {
            for (int i = 0; i <= w + ahead; i++) {
                x.goOn(w);
            }
        }
        for (int w = 0; w < 4; w++) {
            x.take(w);
            x.put(100 + w, 1, 0);
        }
        counts(x, 64, 4, 64, 0);
        return x;
    }

    private static void mostTombstones() {
        StampedSlots x = longestRow(0);
        for (int w = 0; w < 4; w++) {
            walker(x, w, 2, -1, 64);
        }
        due("the last place", 3001, x.at(63));
        due("it is the last", 63, x.thing(3001, 4));
        due("the sum", 2016 - (0 + 1 + 2 + 3) + (100 + 101 + 102 + 103), x.fire());
        due("the first is left", 2, x.restart(0));
        due("one is gone", 3, x.count(1));
        due("the last is left", 4000, x.goOn(3));
        due("two are gone", 2, x.count(1));
        walker(x, 1, 2, -1, 64);
        walker(x, 2, 2, -1, 64);
        walker(x, 3, 1, 4000, 63);
        StampedSlots y = longestRow(60);
        for (int w = 0; w < 4; w++) {
            walker(y, w, 2, -1, 4);
            due("goOn", 60001, y.goOn(w));
        }
        due("all are gone", 0, y.count(1));
        due("the last place", 63001, y.at(63));
    }

    private static void freeAtOnce() {
        StampedSlots x = with("5*2,6*1");
        x.goOn(0);
        x.remove(0);
        due("free ones, under the tombstone", 15, x.count(3));
        due("its first cell", -1, x.cell(0, 1));
        due("its second cell", -1, x.cell(1, 1));
        due("it begins there", 0, x.begins(2));
        due("put into the slot", 1, x.put(7, 2, 0));
        walker(x, 0, 2, -1, 2);
        row(x, 2000, 1);
        due("the next", 2000, x.goOn(0));
        due("the one in the old slot", 1, x.goOn(0));
        StampedSlots y = full();
        y.goOn(3);
        y.take(3);
        due("a full store has room at once", 1, y.put(0, 4, 0));
        due("with the tombstone", 1, y.count(1));
    }

    private static void tombstoneUnderWalkers() {
        StampedSlots x = with("1*1,2*1,3*1,4*1,5*1!");
        x.goOn(1);
        x.goOn(2);
        x.goOn(2);
        for (int i = 0; i < 6; i++) {
            x.goOn(3);
        }
        walker(x, 0, 0, -1, 5);
        walker(x, 1, 1, 0, 4);
        walker(x, 3, 3, -1, 0);
        x.remove(2000);
        due("walkers stand elsewhere", 0, x.count(1));
        x.remove(1000);
        due("one stands on it", 1, x.count(1));
        x.take(1);
        due("one more is taken", 2, x.count(1));
        x.restart(3);
        due("the first thing of the row", 3000, x.goOn(3));
        due("the once-thing", 4000, x.goOn(3));
        x.fire();
        due("one more is fired", 3, x.count(1));
        walker(x, 1, 2, -1, 1);
        walker(x, 2, 2, -1, 1);
        walker(x, 3, 2, -1, 0);
        StampedSlots y = with("1*1,2*1");
        for (int w = 0; w < 4; w++) {
            y.goOn(w);
            y.goOn(w);
        }
        y.remove(0);
        due("moved under walkers", 1, y.together());
        due("a move leaves no tombstone", 0, y.count(1));
        y.remove(1);
        due("four stand on it", 1, y.count(1));
    }

    private static void lastWalkerLeaves() {
        StampedSlots x = with("1*1,2*1,3*1");
        for (int w = 0; w < 4; w++) {
            x.goOn(w);
            x.goOn(w);
        }
        x.remove(1000);
        due("restart of the first", 2, x.restart(0));
        due("three stand on it", 1, x.count(1));
        due("the second goes on", 2000, x.goOn(1));
        due("the third goes on", 2000, x.goOn(2));
        due("one stands on it", 1, x.count(1));
        due("restart of the last", 2, x.restart(3));
        due("none stands on it", 0, x.count(1));
        walker(x, 1, 1, 2000, 0);
        walker(x, 3, 0, -1, 2);
        x.undo();
        due("undone", 1, x.count(1));
        walker(x, 3, 2, -1, 1);
        due("the last goes on", 2000, x.goOn(3));
        due("none stands on it", 0, x.count(1));
        x.remove(2000);
        due("behind the row", -1, x.goOn(3));
        due("two stand on it", 1, x.count(1));
        x.goOn(1);
        x.goOn(2);
        due("gone with the last", 0, x.count(1));
        tombstonesSideBySide();
    }

    private static void tombstonesSideBySide() {
        StampedSlots x = with("1*1,2*1,3*1,4*1");
        for (int w = 0; w < 3; w++) {
            for (int i = 0; i <= w; i++) {
                x.goOn(w);
            }
        }
        x.remove(1000);
        x.remove(0);
        x.remove(2000);
        due("three side by side", 3, x.count(1));
        due("the middle one is left", 3000, x.goOn(1));
        due("it is gone", 2, x.count(1));
        walker(x, 0, 2, -1, 1);
        walker(x, 2, 2, -1, 1);
        due("the first one is left", 2, x.restart(0));
        due("it is gone", 1, x.count(1));
        walker(x, 2, 2, -1, 1);
        walker(x, 1, 1, 3000, 0);
        due("from the last one on", 3000, x.goOn(2));
        due("none", 0, x.count(1));
    }

    private static void tombstonesCountForNothing() {
        StampedSlots x = with("1*1,2*1,3*1,4*1,5*1");
        x.goOn(0);
        x.goOn(1);
        x.goOn(1);
        x.goOn(1);
        x.remove(0);
        x.remove(2000);
        due("tombstones", 2, x.count(1));
        row(x, 1000, 3000, 4000);
        due("behind the last place", -1, x.at(3));
        due("a place", 0, x.thing(1000, 4));
        due("a place", 1, x.thing(3000, 4));
        due("a place", 2, x.thing(4000, 4));
        counts(x, 3, 2, 16, 13, 11, 0, 5, 2, 0, 6);
        walker(x, 2, 0, -1, 3);
        walker(x, 0, 2, -1, 3);
        walker(x, 1, 2, -1, 2);
        due("the sum", 11, x.fire());
        due("the sum of three events", 33, x.ifFired(3, 0));
        due("things then", 3, x.ifFired(3, 1));
        due("free in a row", 11, x.gap(0));
        due("room", 13, x.room(1, false));
        due("fullness", Double.doubleToLongBits(3.0 / 16), Double.doubleToLongBits(x.fullness()));
        due("moved", 3, x.together());
        due("tombstones stay as things are moved", 2, x.count(1));
        due("the fourth walker passes over the first", 1, x.goOn(3));
        due("the fourth walker passes over the second", 1001, x.goOn(3));
        due("to the last", 2001, x.goOn(3));
    }

    private static void leastAndMostValue() {
        StampedSlots x = with("0*1,999*1");
        due("the least", 0, x.thing(0, 0));
        due("the most", 999, x.thing(1000, 0));
        due("put of the least", 2000, x.put(0, 1, 0));
        due("put of the most", 3000, x.put(999, 1, 0));
        due("change to the most", 0, x.change(0, 999));
        due("change to the least", 999, x.change(1000, 0));
        due("all together", 999 + 999, x.count(4));
        thrown(x, "put of 1000", ARGUMENT, () -> x.put(1000, 1, 0));
        thrown(x, "put of -1", ARGUMENT, () -> x.put(-1, 1, 0));
        thrown(x, "change to 1000", ARGUMENT, () -> x.change(0, 1000));
        thrown(x, "change to -1", ARGUMENT, () -> x.change(0, -1));
    }

    private static void plain() {
        StampedSlots x = with("7*2");
        for (int i = 1; i <= 3; i++) {
            due("the sum", 7, x.fire());
            row(x, 0);
            due("its kind", 0, x.thing(0, 2));
            due("fired", i, x.thing(0, 3));
        }
        counts(x, 1, 0, 16, 14, 7, 3, 1, 0, 0, 4);
    }

    private static void once() {
        StampedSlots x = with("7*2!,8*1!");
        x.goOn(2);
        due("its kind", 1, x.thing(0, 2));
        due("the sum, with it", 15, x.fire());
        row(x);
        counts(x, 0, 1, 16, 16, 0, 1, 2, 2, 0, 3);
        due("its handle is stale", 2, x.refusal(0));
        due("the other one's too", 2, x.refusal(2000));
        walker(x, 2, 2, -1, 0);
        due("nothing is left to fire", 0, x.fire());
        due("removed so far", 2, x.count(7));
        x.undo();
        x.undo();
        row(x, 0, 2000);
        due("not fired", 0, x.thing(0, 3));
        walker(x, 2, 1, 0, 1);
        due("if fired", 0, x.ifFired(1, 1));
        due("if fired twice, the sum", 15, x.ifFired(2, 0));
    }

    private static void twice() {
        for (int size = 1; size <= 4; size++) {
            StampedSlots x = new StampedSlots();
            x.put(size == 4 ? 999 : 0, size, 2);
            x.put(1, 1, 0);
            x.fire();
            int handle = 1000 * (size + 1);
            row(x, 0, 1000 * size, handle);
            due("the same value", size == 4 ? 999 : 0, x.thing(handle, 0));
            due("the same size", size, x.thing(handle, 1));
            due("plain", 0, x.thing(handle, 2));
            due("double still", 2, x.thing(0, 2));
        }
        StampedSlots y = with("5*1+");
        for (int i = 0; i < 6; i++) {
            due("one more each time", 5 * (i + 1), y.fire());
            due("things", i + 2, y.count(0));
        }
        due("put so far, also by events", 7, y.count(6));
        y.change(0, 6);
        y.fire();
        due("the value of now", 6, y.thing(7000, 0));
    }

    private static void twiceIfThereIsRoom() {
        StampedSlots x = filled(3, 4);
        x.put(50, 4, 2);
        for (int i = 1; i <= 12; i++) {
            x.fire();
            due("cells", i <= 4 ? 32 : 64, x.count(2));
            due("things", 4 + i, x.count(0));
        }
        due("without room", 53 + 12 * 50, x.fire());
        due("things", 16, x.count(0));
        due("put so far", 16, x.count(6));
        due("fired all the same", 13, x.thing(12000, 3));
        due("if fired", 16, x.ifFired(9, 1));
        StampedSlots y = fullOfHoles();
        y.remove(0);
        due("a double of three", 1, y.put(6, 3, 2));
        y.fire();
        due("holes of one are too small", 16, y.count(0));
        due("a double of one", 3001, y.put(7, 1, 2));
        y.fire();
        due("one hole is enough", 7001, y.at(17));
        roomByTheSameEvent();
    }

    private static void roomByTheSameEvent() {
        StampedSlots x = full();
        x.remove(20000);
        x.put(1, 4, 1);
        x.remove(40000);
        x.put(2, 4, 2);
        x.fire();
        due("what is removed ahead of it makes room", 20002, x.at(15));
        due("plain", 0, x.thing(20002, 2));
        due("things", 16, x.count(0));
        StampedSlots y = full();
        y.remove(40000);
        y.put(2, 4, 2);
        y.remove(20000);
        y.put(1, 4, 1);
        y.fire();
        due("what is removed behind it comes too late", 15, y.count(0));
        due("free ones", 4, y.count(3));
        StampedSlots z = full();
        z.remove(60000);
        z.putBehind(0, 8, 1, 2);
        z.putBehind(0, 9, 1, 2);
        z.put(7, 1, 0);
        due("one cell is free", 1, z.count(3));
        z.fire();
        due("the first in the row takes it, not the lowest", 9, z.thing(63000, 0));
        due("the other one finds none", 0, z.count(3));
    }

    private static void timesFired() {
        StampedSlots x = with("1*1,2*2,3*1+");
        due("at first", 0, x.thing(0, 3));
        x.fire();
        x.fire();
        due("the plain one", 2, x.thing(1000, 3));
        due("the double", 2, x.thing(3000, 3));
        due("the new one of the first event", 1, x.thing(4000, 3));
        due("the new one of the second", 0, x.thing(5000, 3));
        x.change(1000, 9);
        due("a change leaves it", 2, x.thing(1000, 3));
        x.remove(0);
        x.together();
        due("a move leaves it", 2, x.thing(1, 3));
        due("another move leaves it", 2, x.thing(2000, 3));
        x.ifFired(9, 0);
        due("what would be leaves it", 2, x.thing(1, 3));
        x.remove(1);
        due("the same slot", 2, x.put(1, 2, 0));
        due("a new thing there", 0, x.thing(2, 3));
    }

    // ---- Walkers

    private static void walkers() {
        sentence("Walkers", "There are 4 walkers, numbered from 0", BoundaryTest::fourWalkers);
        sentence("Walkers", "each stands ahead of the row, at first, on a thing or a tombstone, or behind the row.",
                BoundaryTest::whereWalkersStand);
        sentence("Walkers", "To go on is to go to the next thing of the row (tombstones are passed over)",
                BoundaryTest::overTombstones);
        sentence("Walkers", "if there is none, the walker stands behind the row", BoundaryTest::behindTheRow);
        sentence("Walkers", "one who stands behind it stays there, also if things are put at the end.",
                BoundaryTest::staysBehind);
    }

    private static void fourWalkers() {
        StampedSlots x = filled(4, 1);
        for (int w = 0; w < 4; w++) {
            for (int i = 0; i <= w; i++) {
                due("goOn(" + w + ")", 1000 * i, x.goOn(w));
            }
        }
        for (int w = 0; w < 4; w++) {
            walker(x, w, 1, 1000 * w, 3 - w);
        }
        for (int number : new int[] {-1, 4, 5, LEAST, MOST}) {
            thrown(x, "restart(" + number + ")", INDEX, () -> x.restart(number));
            thrown(x, "goOn(" + number + ")", INDEX, () -> x.goOn(number));
            thrown(x, "take(" + number + ")", INDEX, () -> x.take(number));
            thrown(x, "walker(" + number + ", 0)", INDEX, () -> x.walker(number, 0));
        }
        due("take of the last", 3, x.take(3));
        due("take of the first", 0, x.take(0));
        due("restart of the last", 2, x.restart(3));
        due("restart of the first", 2, x.restart(0));
        row(x, 1000, 2000);
    }

    private static void whereWalkersStand() {
        StampedSlots x = new StampedSlots();
        for (int w = 0; w < 4; w++) {
            walker(x, w, 0, -1, 0);
        }
        x.put(1, 1, 0);
        for (int w = 0; w < 4; w++) {
            walker(x, w, 0, -1, 1);
        }
        x.goOn(1);
        walker(x, 1, 1, 0, 0);
        x.goOn(2);
        x.goOn(2);
        walker(x, 2, 3, -1, 0);
        x.remove(0);
        walker(x, 1, 2, -1, 0);
        walker(x, 2, 3, -1, 0);
        due("ahead", 0, x.restart(0));
        due("on a tombstone", 2, x.restart(1));
        due("behind", 3, x.restart(2));
        x.put(1, 1, 0);
        x.goOn(3);
        due("on a thing", 1, x.restart(3));
        for (int w = 0; w < 4; w++) {
            walker(x, w, 0, -1, 1);
        }
    }

    private static void overTombstones() {
        StampedSlots x = filled(5, 1);
        for (int w = 1; w < 4; w++) {
            for (int i = 0; i <= w; i++) {
                x.goOn(w);
            }
        }
        x.remove(2000);
        x.goOn(0);
        due("over none", 1000, x.goOn(0));
        due("over one", 3000, x.goOn(0));
        x.undo();
        x.remove(1000);
        x.remove(3000);
        due("three tombstones in a row", 3, x.count(1));
        walker(x, 0, 2, -1, 1);
        due("from the first, over two", 4000, x.goOn(0));
        x.restart(0);
        x.remove(0);
        due("from ahead of the row, over three", 4000, x.goOn(0));
        due("from the second, over one", 4000, x.goOn(2));
        due("from the first", 4000, x.goOn(1));
        due("from the last, over none", 4000, x.goOn(3));
        due("none is left", 0, x.count(1));
        x.putBehind(4000, 9, 1, 0);
        x.restart(1);
        due("to the first", 4000, x.goOn(1));
        due("and to what was put behind it", 1, x.goOn(1));
    }

    private static void behindTheRow() {
        StampedSlots x = new StampedSlots();
        due("in an empty row", -1, x.goOn(0));
        walker(x, 0, 3, -1, 0);
        StampedSlots y = filled(2, 1);
        y.goOn(1);
        due("on the last thing", 1000, y.goOn(1));
        y.goOn(2);
        y.goOn(2);
        due("behind the last thing", -1, y.goOn(1));
        walker(y, 1, 3, -1, 0);
        y.remove(1000);
        due("on the only thing", 0, y.goOn(3));
        due("only a tombstone is behind it", -1, y.goOn(3));
        walker(y, 3, 3, -1, 0);
        due("from the last tombstone on", -1, y.goOn(2));
        walker(y, 2, 3, -1, 0);
        due("no tombstone is left", 0, y.count(1));
        y.goOn(0);
        y.remove(0);
        due("from the only tombstone", -1, y.goOn(0));
        counts(y, 0, 0);
    }

    private static void staysBehind() {
        StampedSlots x = new StampedSlots();
        x.goOn(0);
        x.put(1, 1, 2);
        staysThere(x);
        x.putBehind(0, 2, 1, 0);
        staysThere(x);
        type(x, "3*1,4*1");
        x.putAll();
        staysThere(x);
        x.fire();
        due("one more by the event", 5, x.count(0));
        staysThere(x);
        x.remove(0);
        staysThere(x);
        x.together();
        staysThere(x);
        due("restart brings it ahead", 3, x.restart(0));
        due("the first", 1, x.goOn(0));
        walker(x, 0, 1, 1, 3);
    }

    private static void staysThere(StampedSlots x) {
        walker(x, 0, 3, -1, 0);
        due("goOn behind the row", -1, x.goOn(0));
        walker(x, 0, 3, -1, 0);
    }

    // ---- Firing, moving together

    private static void firingAndMovingTogether() {
        sentence("Firing", "An event is fired: the things that are in the row then are fired, one behind the other",
                BoundaryTest::firedInOrder);
        sentence("Firing", "things that are put by this are not fired.", BoundaryTest::newOnesAreNotFired);
        sentence("Moving together", "the things, in the order of the cells at which they begin, are to lie one behind"
                + " the other from the cell 0 on, with no free cell between", BoundaryTest::liesTogether);
        sentence("Moving together", "each one that lies elsewhere is moved there (first the one with the lowest cell)",
                BoundaryTest::movedOneByOne);
        sentence("Moving together", "the others stay, with their handles.", BoundaryTest::othersStay);
        sentence("Moving together", "The order of the row stays, and the store does not shrink.",
                BoundaryTest::orderStays);
    }

    private static void firedInOrder() {
        StampedSlots x = new StampedSlots();
        due("an empty row", 0, x.fire());
        due("counted", 1, x.count(5));
        StampedSlots y = new StampedSlots();
        for (int i = 0; i < 64; i++) {
            y.put(999, 1, 1);
        }
        due("the greatest sum", 64 * 999, y.fire());
        due("none is left", 0, y.count(0));
        due("removed", 64, y.count(7));
        // The double stands last in the row and first in the cells: each once-thing goes before.
        StampedSlots z = with("0*1,1*4!,2*4!");
        z.remove(0);
        z.put(3, 1, 2);
        due("the sum", 6, z.fire());
        row(z, 1, 1001);
        due("fired", 1, z.thing(1, 3));
    }

    private static void newOnesAreNotFired() {
        StampedSlots x = with("10*1+,20*1+");
        due("the first sum", 30, x.fire());
        row(x, 0, 1000, 2000, 3000);
        due("fired", 1, x.thing(1000, 3));
        due("not fired", 0, x.thing(2000, 3));
        due("not fired", 0, x.thing(3000, 3));
        due("the second sum", 60, x.fire());
        due("fired by the second", 1, x.thing(2000, 3));
        due("three events more", 90 + 120 + 150, x.ifFired(3, 0));
        // The new thing lies in the cells of a once-thing that was fired ahead of it.
        StampedSlots y = with("100*2!,7*2+");
        due("the sum", 107, y.fire());
        row(y, 2000, 1);
        due("not fired in the old slot", 0, y.thing(1, 3));
        due("it stays", 14, y.fire());
    }

    private static void liesTogether() {
        due("an empty store", 0, new StampedSlots().together());
        due("a full store", 0, full().together());
        StampedSlots x = with("1*4,2*3,3*2,4*1,5*4");
        due("it lies so already", 0, x.together());
        x.remove(4000);
        x.remove(9000);
        due("moved", 2, x.together());
        row(x, 0, 4001, 6000);
        for (int cell = 0; cell < 16; cell++) {
            due("cell " + cell, cell < 4 ? 0 : cell < 6 ? 4001 : cell < 10 ? 6000 : -1, x.cell(cell, 1));
        }
        due("the rest is one gap", 6, x.gap(0));
        due("from its end on", 10, x.gap(1));
        StampedSlots y = fullOfHoles();
        due("all but the first", 15, y.together());
        due("the gap", 16, y.gap(0));
        due("it begins behind all", 48, y.gap(1));
        due("the last one", 45000, y.at(15));
        // The cells decide, not the row: the first of the row lies last.
        StampedSlots z = filled(3, 1);
        z.remove(1000);
        z.putBehind(0, 9, 2, 0);
        z.remove(0);
        due("moved", 2, z.together());
        row(z, 1001, 1);
    }

    private static void movedOneByOne() {
        StampedSlots x = with("1*1,2*4,3*4,4*1");
        x.remove(0);
        due("each by one cell", 3, x.together());
        row(x, 1, 4000, 8000);
        int[] stamps = {1, 1, 0, 0, 0, 1, 0, 0, 0, 1};
        for (int cell = 0; cell < 10; cell++) {
            due("the stamp of " + cell, stamps[cell], x.cell(cell, 0));
        }
        due("moved so far", 3, x.count(8));
        due("no more", 0, x.together());
        due("moved so far", 3, x.count(8));
        due("none removed by it", 1, x.count(7));
        due("none put by it", 4, x.count(6));
        // A thing is moved into the very slot that the one with the lower cell leaves.
        StampedSlots y = with("1*2,2*2,3*2");
        y.remove(0);
        due("two", 2, y.together());
        row(y, 1, 2001);
        due("the value of the first", 2, y.thing(1, 0));
        due("the value of the second", 3, y.thing(2001, 0));
        StampedSlots z = filled(64, 1);
        z.remove(0);
        due("most at once", 63, z.together());
        due("the last", 62001, z.at(62));
    }

    private static void othersStay() {
        StampedSlots x = with("1*1,2*2,3*3,4*4");
        x.remove(3000);
        due("one is moved", 1, x.together());
        row(x, 0, 1000, 3001);
        due("the first", 0, x.refusal(0));
        due("the second", 0, x.refusal(1000));
        due("the moved one's old handle", 3, x.refusal(6001));
        due("and the one before", 2, x.refusal(6000));
        StampedSlots y = filled(64, 1);
        y.remove(63000);
        due("a hole at the end", 0, y.together());
        y.remove(62000);
        y.put(5, 1, 0);
        y.remove(61000);
        due("the last one alone", 1, y.together());
        due("the ones ahead", 60000, y.at(60));
        due("the last", 61001, y.at(61));
    }

    private static void orderStays() {
        StampedSlots x = filled(2, 1);
        x.putBehind(0, 7, 1, 0);
        x.putBehind(0, 8, 1, 0);
        row(x, 0, 3000, 2000, 1000);
        x.goOn(0);
        x.goOn(1);
        x.goOn(1);
        x.remove(0);
        walker(x, 1, 1, 3000, 2);
        due("moved", 3, x.together());
        row(x, 2001, 1001, 1);
        due("values in the same order", 8, x.thing(2001, 0));
        due("values in the same order", 7, x.thing(1001, 0));
        walker(x, 0, 2, -1, 3);
        walker(x, 1, 1, 2001, 2);
        due("the walker goes on in the same order", 1001, x.goOn(1));
        due("to the last", 1, x.goOn(1));
        StampedSlots y = filled(5, 4);
        for (int i = 0; i < 4; i++) {
            y.remove(4000 * i);
        }
        due("moved", 1, y.together());
        due("32 cells stay", 32, y.count(2));
        y.remove(1);
        due("none", 0, y.together());
        due("32 cells of an empty store", 32, y.count(2));
        StampedSlots z = filled(9, 4);
        for (int i = 0; i < 9; i++) {
            z.remove(4000 * i);
        }
        z.together();
        due("64 cells stay", 64, z.count(2));
    }

    // ---- Input text

    private static void inputText() {
        sentence("Input text", "The buffer has at most 60 characters.", BoundaryTest::longestBuffer);
        sentence("Input text", "Things as a text are one or more parts with \",\" between them", BoundaryTest::parts);
        sentence("Input text", "each a value, 0 to 999, without a leading zero", BoundaryTest::valuesInTexts);
        sentence("Input text", "then \"*\" and a size, 1 to 4", BoundaryTest::sizesInTexts);
        sentence("Input text", "and perhaps \"!\" (once) or \"+\" (double).", BoundaryTest::signsInTexts);
        sentence("Input text", "The buffer is read from left to right; a character is a syntax error if no things as a"
                + " text, of any length, begin with the characters before it and this character.",
                BoundaryTest::firstErrors);
    }

    private static void longestBuffer() {
        StampedSlots x = new StampedSlots();
        for (int i = 1; i <= 60; i++) {
            due("append", i, x.append('7'));
        }
        thrown(x, "the 61st", STATE, () -> x.append('7'));
        due("clear", 60, x.clearBuffer());
        due("from 1 again", 1, x.append('7'));
        String text = repeated("999*4+,", 8) + "10*4";
        due("the text's length", 60, text.length());
        type(x, text);
        due("no error in 60", 60, x.firstError());
        due("put of 60", 9, x.putAll());
        due("the last one's value", 10, x.thing(32000, 0));
        due("the last one's size", 4, x.thing(32000, 1));
        due("the one ahead's kind", 2, x.thing(28000, 2));
    }

    /** The text is wrong at an index, or is not ended where it ends; nothing is put in either case. */
    private static void notWhole(String text, int error) {
        StampedSlots x = new StampedSlots();
        type(x, text);
        due("firstError of " + text, error, x.firstError());
        thrown(x, "putAll of " + text, ARGUMENT, () -> x.putAll());
        due("the length of " + text, text.length(), x.clearBuffer());
    }

    /** The text is one thing, at the end of a row with another one. */
    private static void oneThing(String text, int value, int size, int kind) {
        StampedSlots x = filled(1, 1);
        type(x, text);
        due("firstError of " + text, text.length(), x.firstError());
        due("putAll of " + text, 1, x.putAll());
        due("the value of " + text, value, x.thing(1000, 0));
        due("the size of " + text, size, x.thing(1000, 1));
        due("the kind of " + text, kind, x.thing(1000, 2));
        due("the buffer behind " + text, 0, x.clearBuffer());
        row(x, 0, 1000);
    }

    private static void parts() {
        notWhole("", 0);
        notWhole(",", 0);
        notWhole("1*1,", 4);
        notWhole(",1*1", 0);
        notWhole("1*1,,2*1", 4);
        notWhole("1*12*1", 3);
        notWhole("1*1;2*1", 3);
        notWhole("1*1!2*1", 4);
        oneThing("1*1", 1, 1, 0);
        StampedSlots x = new StampedSlots();
        type(x, "1*1,2*1");
        due("two parts", 2, x.putAll());
        row(x, 0, 1000);
        StampedSlots y = new StampedSlots();
        type(y, repeated("7*1,", 14) + "8*1");
        due("most parts", 15, y.putAll());
        due("the last one", 8, y.thing(14000, 0));
    }

    private static void valuesInTexts() {
        for (int value : new int[] {0, 1, 9, 10, 11, 99, 100, 101, 109, 190, 900, 998, 999}) {
            oneThing(value + "*2", value, 2, 0);
        }
        notWhole("*2", 0);
        notWhole("00*2", 1);
        notWhole("01*2", 1);
        notWhole("09", 1);
        notWhole("000", 1);
        notWhole("1000*2", 3);
        notWhole("0999*2", 1);
        notWhole("9999", 3);
        notWhole("-1*2", 0);
        notWhole("+1*2", 0);
        notWhole("1*1,01*1", 5);
        notWhole("1*1,1000", 7);
    }

    private static void sizesInTexts() {
        for (int size = 1; size <= 4; size++) {
            oneThing("37*" + size, 37, size, 0);
        }
        notWhole("1*0", 2);
        notWhole("1*5", 2);
        notWhole("1*9", 2);
        notWhole("1*", 2);
        notWhole("1**", 2);
        notWhole("1*!", 2);
        notWhole("1*,", 2);
        notWhole("1*10", 3);
        notWhole("1*01", 2);
        notWhole("1", 1);
        notWhole("1,", 1);
        notWhole("1!", 1);
        notWhole("123+", 3);
    }

    private static void signsInTexts() {
        oneThing("5*3!", 5, 3, 1);
        oneThing("5*3+", 5, 3, 2);
        oneThing("5*3", 5, 3, 0);
        notWhole("5*3!!", 4);
        notWhole("5*3!+", 4);
        notWhole("5*3+!", 4);
        notWhole("5*3++", 4);
        notWhole("5*3?", 3);
        notWhole("5*3-", 3);
        StampedSlots x = new StampedSlots();
        type(x, "1*1!,2*1,3*1+,4*1,5*1!");
        due("five", 5, x.putAll());
        int[] kinds = {1, 0, 2, 0, 1};
        for (int i = 0; i < 5; i++) {
            due("the kind of " + i, kinds[i], x.thing(1000 * i, 2));
        }
    }

    private static void firstErrors() {
        String digits = "0123456789";
        allAfter("", digits);
        allAfter("0", "*");
        allAfter("1", digits + "*");
        allAfter("9", digits + "*");
        allAfter("10", digits + "*");
        allAfter("99", digits + "*");
        allAfter("100", "*");
        allAfter("999", "*");
        allAfter("0*", "1234");
        allAfter("999*", "1234");
        allAfter("0*1", "!+,");
        allAfter("0*4", "!+,");
        allAfter("0*4!", ",");
        allAfter("0*4+", ",");
        allAfter("0*4,", digits);
        allAfter("0*4!,", digits);
        allAfter("0*4+,1", digits + "*");
        error("x1*1", 0);
        error("1*1xx,1*1", 3);
        // Texts are of any length, so what 60 characters can't end may begin one all the same.
        error(repeated("0*4,", 15), 60);
        error(repeated("0*4,", 14) + "100*", 60);
        error(repeated("0*4,", 14) + "0*4x", 59);
        error("," + repeated("0*4,", 14), 0);
    }

    private static void error(String text, int want) {
        StampedSlots x = new StampedSlots();
        type(x, text);
        due("firstError of " + text, want, x.firstError());
        due("nothing is changed", text.length(), x.clearBuffer());
    }

    private static void allAfter(String before, String right) {
        for (char sign = 33; sign <= 126; sign++) {
            error(before + sign, right.indexOf(sign) >= 0 ? before.length() + 1 : before.length());
        }
    }

    // ---- Undo

    private static void undo() {
        sentence("Undo", "Each method that is marked \"undoable\" and does not throw an exception saves the state from"
                + " before it", BoundaryTest::eachSaves);
        sentence("Undo", "(also if it changes nothing)", BoundaryTest::savesIfNothingChanges);
        sentence("Undo", "all, also walkers and what is counted so far, but the buffer and the saved states.",
                BoundaryTest::allIsRestored);
        sentence("Undo", "At most 6 states are saved", BoundaryTest::sixStates);
        sentence("Undo", "the oldest one is dropped first.", BoundaryTest::oldestIsDropped);
    }

    private static final String[] UNDOABLE = {"put", "putBehind", "remove", "change", "restart", "goOn", "take",
        "fire", "together", "putAll"};

    /** Things, a hole, a tombstone, walkers at all four places, something fired, and a text. */
    private static StampedSlots lived() {
        StampedSlots x = with("1*1!,2*2+,3*1,4*3,5*1,6*1");
        x.goOn(0);
        x.goOn(0);
        x.goOn(1);
        for (int i = 0; i < 7; i++) {
            x.goOn(2);
        }
        x.fire();
        x.remove(3000);
        type(x, "9*4!,8*1");
        return x;
    }

    private static void use(StampedSlots x, int call) {
        switch (call) {
            case 0: x.put(1, 4, 2); break;
            case 1: x.putBehind(1000, 1, 4, 0); break;
            case 2: x.remove(1000); break;
            case 3: x.change(1000, 77); break;
            case 4: x.restart(1); break;
            case 5: x.goOn(1); break;
            case 6: x.take(0); break;
            case 7: x.fire(); break;
            case 8: x.together(); break;
            default: x.putAll(); break;
        }
    }

    private static void eachSaves() {
        for (int call = 0; call < UNDOABLE.length; call++) {
            StampedSlots x = lived();
            x.undo();
            x.undo();
            x.remove(3000);
            due("saved ahead of " + UNDOABLE[call], 5, x.count(9));
            long before = plain(x);
            use(x, call);
            due("saved behind " + UNDOABLE[call], 6, x.count(9));
            due(UNDOABLE[call] + " changed something", 1, plain(x) != before ? 1 : 0);
            due("undo of " + UNDOABLE[call], 5, x.undo());
            due("the state behind undo of " + UNDOABLE[call], before, plain(x));
        }
        StampedSlots y = new StampedSlots();
        y.append('1');
        y.firstError();
        y.clearBuffer();
        thrown(y, "undo of calls that are not undoable", STATE, () -> y.undo());
        thrown(y, "putAll of nothing", ARGUMENT, () -> y.putAll());
        thrown(y, "take ahead of the row", STATE, () -> y.take(0));
        due("what throws saves nothing", 0, y.count(9));
        y.put(1, 1, 0);
        y.undo();
        thrown(y, "undo itself is not undoable", STATE, () -> y.undo());
    }

    /** All of the state but the saved states and the buffer, by looks. */
    private static long plain(StampedSlots x) {
        long hash = 7;
        for (int what = 0; what <= 8; what++) {
            hash = 31 * hash + x.count(what);
        }
        for (int place = 0; place < x.count(0); place++) {
            for (int what = 0; what <= 5; what++) {
                hash = 31 * hash + x.thing(x.at(place), what);
            }
        }
        for (int cell = 0; cell < x.count(2); cell++) {
            hash = 31 * (31 * hash + x.cell(cell, 0)) + x.cell(cell, 1);
        }
        for (int w = 0; w < 4; w++) {
            hash = 31 * (31 * hash + x.walker(w, 0)) + x.walker(w, 2);
        }
        return hash;
    }

    private static void savesIfNothingChanges() {
        savedBy("change to the same value", 2, filled(1, 1), x -> x.change(0, 0));
        savedBy("restart ahead of the row", 2, filled(1, 1), x -> x.restart(3));
        StampedSlots behind = new StampedSlots();
        behind.goOn(0);
        savedBy("goOn behind the row", 2, behind, x -> x.goOn(0));
        savedBy("fire of no things", 1, new StampedSlots(), x -> x.fire());
        savedBy("together of no things", 1, new StampedSlots(), x -> x.together());
        savedBy("together of what lies so", 5, filled(4, 3), x -> x.together());
        StampedSlots full = full();
        full.undo();
        full.undo();
        type(full, "0*4,0*4,0*4");
        savedBy("putAll with room", 5, full, x -> x.putAll());
        type(full, "0*1,0*1");
        savedBy("putAll without room", 6, full, x -> x.putAll());
        due("undo of nothing", 5, full.undo());
        due("no change", 16, full.count(0));
        due("undo of the one before", 4, full.undo());
        due("a change", 14, full.count(0));
    }

    private static void savedBy(String what, int want, StampedSlots x, Use use) {
        use.of(x);
        due("saved behind " + what, want, x.count(9));
    }

    private static void allIsRestored() {
        StampedSlots x = lived();
        long before = plain(x);
        x.put(1, 4, 1);
        x.goOn(0);
        x.restart(2);
        x.fire();
        x.together();
        x.putAll();
        due("the store grew", 32, x.count(2));
        type(x, "a_buffer");
        for (int left = 5; left >= 0; left--) {
            due("undo", left, x.undo());
        }
        due("all is as it was", before, plain(x));
        due("cells", 16, x.count(2));
        walker(x, 0, 1, 1000, 4);
        walker(x, 1, 2, -1, 5);
        walker(x, 2, 3, -1, 0);
        walker(x, 3, 0, -1, 5);
        due("the buffer stays as it is", 8, x.clearBuffer());
        due("events", 1, x.count(5));
        thrown(x, "undo without a saved state", STATE, () -> x.undo());
    }

    private static void sixStates() {
        StampedSlots x = filled(1, 1);
        for (int i = 2; i <= 20; i++) {
            x.change(0, i);
            due("saved", Math.min(i, 6), x.count(9));
        }
        for (int left = 5; left >= 0; left--) {
            due("undo", left, x.undo());
            due("saved", left, x.count(9));
            due("the value then", 14 + left, x.thing(0, 0));
        }
        thrown(x, "the seventh undo", STATE, () -> x.undo());
    }

    private static void oldestIsDropped() {
        StampedSlots x = new StampedSlots();
        for (int i = 0; i < 7; i++) {
            x.put(i, 1, 0);
        }
        for (int i = 0; i < 6; i++) {
            x.undo();
        }
        row(x, 0);
        StampedSlots y = filled(1, 1);
        for (int i = 1; i <= 9; i++) {
            y.change(0, i);
        }
        y.undo();
        y.undo();
        y.undo();
        due("three are left", 3, y.count(9));
        due("the value then", 6, y.thing(0, 0));
        for (int i = 11; i <= 15; i++) {
            y.change(0, i);
        }
        due("six again", 6, y.count(9));
        int[] values = {14, 13, 12, 11, 6, 5};
        for (int value : values) {
            y.undo();
            due("the value then", value, y.thing(0, 0));
        }
        thrown(y, "undo of what was dropped", STATE, () -> y.undo());
    }

    // ---- Exceptions, constants

    private static void exceptions() {
        sentence("Exceptions", "A call that throws an exception changes nothing.", BoundaryTest::nothingIsChanged);
        sentence("Exceptions", "If several exceptions apply, the one that is named first in the throws clause is"
                + " thrown.", BoundaryTest::firstOfSeveral);
        sentence("The constants", "There is nothing to return.", BoundaryTest::none);
        sentence("The face", "looks; nothing is changed.", BoundaryTest::looksChangeNothing);
        sentence("The face", "what would be; nothing is changed.", BoundaryTest::whatWouldBeChangesNothing);
    }

    /** A full store with six saved states, all unlike, and a full buffer. */
    private static StampedSlots loaded() {
        StampedSlots x = full();
        for (int i = 1; i <= 7; i++) {
            x.change(60000, 500 + i);
        }
        type(x, repeated("1*1,", 15));
        return x;
    }

    private static void changesNothing(String what, Class<?> want, Use use) {
        StampedSlots x = loaded();
        thrown(x, what, want, () -> use.of(x));
        due("the state behind " + what, loaded().digest(), x.digest());
        due("the buffer behind " + what, 60, x.clearBuffer());
        for (int left = 5; left >= 0; left--) {
            due("undo behind " + what, left, x.undo());
            due("the value behind " + what, 501 + left, x.thing(60000, 0));
        }
    }

    private static void nothingIsChanged() {
        changesNothing("put, value", ARGUMENT, x -> x.put(1000, 1, 0));
        changesNothing("put, size", ARGUMENT, x -> x.put(0, 5, 0));
        changesNothing("put, kind", ARGUMENT, x -> x.put(0, 1, 3));
        changesNothing("put, no room", STATE, x -> x.put(0, 1, 0));
        changesNothing("putBehind, handle", INDEX, x -> x.putBehind(1, 0, 1, 0));
        changesNothing("putBehind, value", ARGUMENT, x -> x.putBehind(0, -1, 1, 0));
        changesNothing("putBehind, no room", STATE, x -> x.putBehind(0, 0, 1, 0));
        changesNothing("remove, handle", INDEX, x -> x.remove(1));
        changesNothing("change, handle", INDEX, x -> x.change(1, 0));
        changesNothing("change, value", ARGUMENT, x -> x.change(0, 1000));
        changesNothing("restart", INDEX, x -> x.restart(4));
        changesNothing("goOn", INDEX, x -> x.goOn(-1));
        changesNothing("take, walker", INDEX, x -> x.take(4));
        changesNothing("take, nothing to take", STATE, x -> x.take(0));
        changesNothing("append, code", ARGUMENT, x -> x.append(32));
        changesNothing("append, full", STATE, x -> x.append(33));
        changesNothing("putAll", ARGUMENT, x -> x.putAll());
        changesNothing("thing, handle", INDEX, x -> x.thing(1, 0));
        changesNothing("thing, what", ARGUMENT, x -> x.thing(0, 6));
        changesNothing("at", ARGUMENT, x -> x.at(-1));
        changesNothing("cell", INDEX, x -> x.cell(64, 0));
        changesNothing("cell, what", ARGUMENT, x -> x.cell(0, 2));
        changesNothing("walker", INDEX, x -> x.walker(4, 0));
        changesNothing("walker, what", ARGUMENT, x -> x.walker(0, 3));
        changesNothing("count", ARGUMENT, x -> x.count(10));
        changesNothing("begins", ARGUMENT, x -> x.begins(5));
        changesNothing("gap", ARGUMENT, x -> x.gap(2));
        changesNothing("ifFired", ARGUMENT, x -> x.ifFired(10, 0));
        changesNothing("room", ARGUMENT, x -> x.room(0, true));
        StampedSlots y = new StampedSlots();
        type(y, "1*1");
        thrown(y, "undo without a saved state", STATE, () -> y.undo());
        due("the buffer behind undo", 3, y.clearBuffer());
        due("a new object still", new StampedSlots().digest(), y.digest());
    }

    private static void firstOfSeveral() {
        StampedSlots x = loaded();
        thrown(x, "put: value, and no room", ARGUMENT, () -> x.put(-1, 1, 0));
        thrown(x, "put: size, and no room", ARGUMENT, () -> x.put(0, 0, 0));
        thrown(x, "put: kind, and no room", ARGUMENT, () -> x.put(0, 1, -1));
        thrown(x, "putBehind: handle and value", INDEX, () -> x.putBehind(1, 1000, 1, 0));
        thrown(x, "putBehind: handle and size", INDEX, () -> x.putBehind(1000, 0, 5, 0));
        thrown(x, "putBehind: handle and kind", INDEX, () -> x.putBehind(-1, 0, 1, 3));
        thrown(x, "putBehind: handle, and no room", INDEX, () -> x.putBehind(64000, 0, 1, 0));
        thrown(x, "putBehind: value, and no room", ARGUMENT, () -> x.putBehind(0, 1000, 1, 0));
        thrown(x, "putBehind: size, and no room", ARGUMENT, () -> x.putBehind(0, 0, 5, 0));
        thrown(x, "putBehind: kind, and no room", ARGUMENT, () -> x.putBehind(0, 0, 1, 3));
        thrown(x, "putBehind: all", INDEX, () -> x.putBehind(1, 1000, 5, 3));
        thrown(x, "change: handle and value", INDEX, () -> x.change(1, 1000));
        thrown(x, "take: walker, and nothing to take", INDEX, () -> x.take(4));
        thrown(x, "append: code, and full", ARGUMENT, () -> x.append(127));
        thrown(x, "thing: handle and what", INDEX, () -> x.thing(1, 6));
        thrown(x, "cell: cell and what", INDEX, () -> x.cell(64, 2));
        thrown(x, "walker: walker and what", INDEX, () -> x.walker(-1, -1));
    }

    private static void none() {
        StampedSlots x = new StampedSlots();
        due("NONE", -1, StampedSlots.NONE);
        due("goOn", StampedSlots.NONE, x.goOn(0));
        due("at", StampedSlots.NONE, x.at(0));
        due("cell", StampedSlots.NONE, x.cell(0, 1));
        due("walker", StampedSlots.NONE, x.walker(0, 1));
        StampedSlots y = full();
        due("begins", StampedSlots.NONE, y.begins(1));
        due("gap", StampedSlots.NONE, y.gap(1));
    }

    private static void unchangedBy(String what, Use use) {
        StampedSlots x = lived();
        StampedSlots y = lived();
        use.of(x);
        due("the digest behind " + what, y.digest(), x.digest());
        for (int i = 0; i < 6; i++) {
            due("undo behind " + what, y.undo(), x.undo());
            due("the state saved ahead of " + what, y.digest(), x.digest());
        }
        due("the buffer behind " + what, y.clearBuffer(), x.clearBuffer());
    }

    private static void looksChangeNothing() {
        unchangedBy("refusal", x -> x.refusal(1000) + x.refusal(0) + x.refusal(-1));
        for (int i = 0; i <= 9; i++) {
            int what = i;
            unchangedBy("count(" + what + ")", x -> x.count(what));
            unchangedBy("at(" + what + ")", x -> x.at(what));
            if (what <= 5) {
                unchangedBy("thing(1000, " + what + ")", x -> x.thing(1000, what));
            }
            if (what <= 2) {
                unchangedBy("walker(1, " + what + ")", x -> x.walker(1, what) + x.walker(2, what));
            }
            if (what <= 1) {
                unchangedBy("cell(1, " + what + ")", x -> x.cell(1, what));
            }
        }
    }

    private static void whatWouldBeChangesNothing() {
        for (int i = 1; i <= 4; i++) {
            int size = i;
            unchangedBy("begins(" + size + ")", x -> x.begins(size));
            unchangedBy("room(" + size + ", false)", x -> x.room(size, false));
            unchangedBy("room(" + size + ", true)", x -> x.room(size, true));
        }
        for (int i = 0; i <= 2; i++) {
            int what = i;
            unchangedBy("ifFired(1, " + what + ")", x -> x.ifFired(1, what));
            unchangedBy("ifFired(9, " + what + ")", x -> x.ifFired(9, what));
        }
        unchangedBy("gap", x -> x.gap(0) + x.gap(1));
        unchangedBy("fullness", x -> (long) x.fullness());
        unchangedBy("digest", x -> x.digest());
    }
}
