/**
 * Each sentence of the promises 1 to 27 that names a boundary case: the range of each parameter, at
 * its ends and beside them, each 'Returns' and each 'Throws', with a test of its own. The order of
 * the throws clauses, undo and the rest of the sections ahead of the promises are in BoundaryTest.
 */
public final class RangeTest extends Check {
    private interface Use {
        long of(StampedSlots x, int argument);
    }

    private RangeTest() {
    }

    public static void main(String[] args) {
        newObjectAndPuts();
        removeAndChange();
        walkerCalls();
        eventsAndTexts();
        looks();
        whatWouldBe();
        finish("RangeTest");
    }

    /** Each number is answered as is due on an object of its own. */
    private static void answers(String what, Use use, StampedSlots x, int[] arguments, int[] want) {
        for (int i = 0; i < arguments.length; i++) {
            due(what + " of " + arguments[i], want[i], use.of(x, arguments[i]));
        }
    }

    private static void outOf(String what, Class<?> want, StampedSlots x, Use use, int... arguments) {
        for (int argument : arguments) {
            thrown(x, what + " of " + argument, want, () -> use.of(x, argument));
        }
    }

    private static int[] ints(int... numbers) {
        return numbers;
    }

    // ---- Promises 1 to 3

    private static void newObjectAndPuts() {
        sentence("Promise 1", "Creates an empty store of 16 cells, with an empty buffer.", RangeTest::newObject);
        sentence("Promise 2", "Puts a thing at the end of the row.", RangeTest::putAtTheEnd);
        sentence("Promise 2", "`value`: 0 to 999", RangeTest::putValue);
        sentence("Promise 2", "`size`: 1 to 4", RangeTest::putSize);
        sentence("Promise 2", "`kind`: 0 to 2", RangeTest::putKind);
        sentence("Promise 2", "Returns its handle.", RangeTest::putReturns);
        sentence("Promise 2", "Throws `IllegalArgumentException` if value, size or kind is out of range",
                RangeTest::putRanges);
        sentence("Promise 2", "Throws `IllegalStateException` if there is no room", RangeTest::putWithoutRoom);
        sentence("Promise 3", "Puts a thing into the row, right behind another one.", RangeTest::rightBehind);
        sentence("Promise 3", "`value`: 0 to 999", RangeTest::putBehindValue);
        sentence("Promise 3", "`size`: 1 to 4", RangeTest::putBehindSize);
        sentence("Promise 3", "`kind`: 0 to 2", RangeTest::putBehindKind);
        sentence("Promise 3", "Returns its handle.", RangeTest::putBehindReturns);
        sentence("Promise 3", "Throws `IndexOutOfBoundsException` if the handle is refused",
                RangeTest::putBehindHandle);
        sentence("Promise 3", "Throws `IllegalArgumentException` if value, size or kind is out of range",
                RangeTest::putBehindRanges);
        sentence("Promise 3", "Throws `IllegalStateException` if there is no room", RangeTest::putBehindWithoutRoom);
    }

    private static void newObject() {
        StampedSlots x = new StampedSlots();
        counts(x, 0, 0, 16, 16, 0, 0, 0, 0, 0, 0);
        due("the buffer", 0, x.clearBuffer());
        due("firstError", 0, x.firstError());
        thrown(x, "undo", STATE, () -> x.undo());
        thrown(x, "putAll", ARGUMENT, () -> x.putAll());
        for (int cell = 0; cell < 16; cell++) {
            due("cell", -1, x.cell(cell, 1));
        }
        StampedSlots y = new StampedSlots();
        y.put(1, 4, 2);
        y.append('1');
        y.goOn(0);
        due("objects are apart", new StampedSlots().digest(), x.digest());
    }

    private static void putAtTheEnd() {
        StampedSlots x = filled(3, 2);
        x.goOn(0);
        x.goOn(0);
        x.goOn(0);
        x.remove(0);
        x.remove(4000);
        due("it begins ahead of all", 1, x.put(9, 2, 0));
        row(x, 2000, 1);
        due("its place", 1, x.thing(1, 4));
        due("behind a tombstone at the end", 1, x.goOn(0));
        due("put so far", 4, x.count(6));
    }

    private static void putValue() {
        StampedSlots x = new StampedSlots();
        answers("put", (s, value) -> s.put(value, 1, 0), x, ints(0, 1, 998, 999), ints(0, 1000, 2000, 3000));
        due("the least", 0, x.thing(0, 0));
        due("the most", 999, x.thing(3000, 0));
        outOf("put", ARGUMENT, x, (s, value) -> s.put(value, 1, 0), -1, 1000, 1001, LEAST, MOST);
    }

    private static void putSize() {
        StampedSlots x = new StampedSlots();
        answers("put", (s, size) -> s.put(0, size, 0), x, ints(1, 2, 3, 4), ints(0, 1000, 3000, 6000));
        due("the least", 1, x.thing(0, 1));
        due("the most", 4, x.thing(6000, 1));
        outOf("put", ARGUMENT, x, (s, size) -> s.put(0, size, 0), -1, 0, 5, 64, LEAST, MOST);
    }

    private static void putKind() {
        StampedSlots x = new StampedSlots();
        answers("put", (s, kind) -> s.put(0, 1, kind), x, ints(0, 1, 2), ints(0, 1000, 2000));
        due("the least", 0, x.thing(0, 2));
        due("the middle", 1, x.thing(1000, 2));
        due("the most", 2, x.thing(2000, 2));
        outOf("put", ARGUMENT, x, (s, kind) -> s.put(0, 1, kind), -1, 3, LEAST, MOST);
    }

    private static void putReturns() {
        StampedSlots x = new StampedSlots();
        for (int i = 0; i < 64; i++) {
            int handle = x.put(i, 1, i % 2 == 0 ? 0 : 2);
            due("the handle", 1000 * i, handle);
            due("it is at the end", handle, x.at(i));
            due("it is good", 0, x.refusal(handle));
        }
    }

    private static void putRanges() {
        StampedSlots x = new StampedSlots();
        int[][] wrong = {{-1, 1, 0}, {1000, 1, 0}, {0, 0, 0}, {0, 5, 0}, {0, 1, -1}, {0, 1, 3}, {-1, 0, 0}, {0, 5, 3},
            {1000, 4, 3}, {-1, 0, -1}, {1000, 5, 3}, {LEAST, LEAST, LEAST}, {MOST, MOST, MOST}};
        for (int[] a : wrong) {
            thrown(x, "put of " + a[0] + ", " + a[1] + ", " + a[2], ARGUMENT, () -> x.put(a[0], a[1], a[2]));
        }
        due("all at their least", 0, x.put(0, 1, 0));
        due("all at their most", 1000, x.put(999, 4, 2));
    }

    private static void putWithoutRoom() {
        for (int size = 1; size <= 4; size++) {
            int s = size;
            StampedSlots x = filled(64 / s, s);
            due("things", 64 / s, x.count(0));
            if (s == 3) {
                due("the last cell", 63000, x.put(0, 1, 0));
            }
            thrown(x, "one more of size " + s, STATE, () -> x.put(0, s, 0));
            thrown(x, "one more of size 1", STATE, () -> x.put(0, 1, 0));
            x.remove(0);
            due("one in its place", 1, x.put(0, s, 0));
            thrown(x, "one more then", STATE, () -> x.put(0, s, 0));
        }
    }

    private static void rightBehind() {
        StampedSlots x = filled(1, 1);
        due("behind the only one", 1000, x.putBehind(0, 1, 1, 0));
        due("behind the last", 2000, x.putBehind(1000, 2, 1, 0));
        due("behind the first", 3000, x.putBehind(0, 3, 1, 0));
        due("behind the middle", 4000, x.putBehind(1000, 4, 1, 0));
        row(x, 0, 3000, 1000, 4000, 2000);
        x.goOn(0);
        x.goOn(1);
        x.goOn(1);
        due("between two walkers", 5000, x.putBehind(0, 5, 1, 0));
        walker(x, 0, 1, 0, 5);
        walker(x, 1, 1, 3000, 3);
        walker(x, 2, 0, -1, 6);
        due("the first goes to it", 5000, x.goOn(0));
        due("the second passes on", 1000, x.goOn(1));
        aheadOfEachWalker();
        x.remove(1000);
        due("behind the thing, ahead of the tombstone", 1001, x.putBehind(3000, 6, 1, 0));
        walker(x, 1, 2, -1, 2);
        row(x, 0, 5000, 3000, 1001, 4000, 2000);
        due("behind itself as it were", 6000, x.putBehind(1001, 7, 1, 0));
        walker(x, 1, 2, -1, 2);
        due("put so far", 8, x.count(6));
        x.remove(0);
        x.together();
        due("behind a moved one", 6001, x.putBehind(x.at(0), 8, 1, 0));
        due("it is second", 6001, x.at(1));
    }

    private static void putBehindHandle() {
        StampedSlots x = with("1*2,2*1");
        x.remove(2000);
        outOf("putBehind", INDEX, x, (s, handle) -> s.putBehind(handle, 0, 1, 0),
                -1, 1, 1000, 2000, 2001, 3000, 15999, 16000, LEAST, MOST);
        due("a good one", 2001, x.putBehind(0, 0, 1, 0));
    }

    private static void aheadOfEachWalker() {
        for (int walker = 0; walker < 4; walker++) {
            StampedSlots x = filled(3, 1);
            x.goOn(walker);
            x.goOn(walker);
            x.putBehind(0, 9, 1, 0);
            walker(x, walker, 1, 1000, 1);
            x.putBehind(1000, 9, 1, 0);
            walker(x, walker, 1, 1000, 2);
            x.remove(3000);
            walker(x, walker, 1, 1000, 2);
            x.remove(0);
            due("take", 1, x.take(walker));
            due("the next", 4000, x.goOn(walker));
        }
    }

    private static void putBehindValue() {
        StampedSlots x = filled(1, 1);
        answers("putBehind", (s, value) -> s.putBehind(0, value, 1, 0), x, ints(0, 1, 998, 999),
                ints(1000, 2000, 3000, 4000));
        due("the least", 0, x.thing(1000, 0));
        due("the most", 999, x.thing(4000, 0));
        outOf("putBehind", ARGUMENT, x, (s, value) -> s.putBehind(0, value, 1, 0), -1, 1000, LEAST, MOST);
    }

    private static void putBehindSize() {
        StampedSlots x = filled(1, 1);
        answers("putBehind", (s, size) -> s.putBehind(0, 0, size, 0), x, ints(1, 2, 3, 4),
                ints(1000, 2000, 4000, 7000));
        due("the least", 1, x.thing(1000, 1));
        due("the most", 4, x.thing(7000, 1));
        outOf("putBehind", ARGUMENT, x, (s, size) -> s.putBehind(0, 0, size, 0), -1, 0, 5, 64, LEAST, MOST);
    }

    private static void putBehindKind() {
        StampedSlots x = filled(1, 1);
        answers("putBehind", (s, kind) -> s.putBehind(0, 0, 1, kind), x, ints(0, 1, 2), ints(1000, 2000, 3000));
        due("the least", 0, x.thing(1000, 2));
        due("the most", 2, x.thing(3000, 2));
        outOf("putBehind", ARGUMENT, x, (s, kind) -> s.putBehind(0, 0, 1, kind), -1, 3, LEAST, MOST);
    }

    private static void putBehindReturns() {
        StampedSlots x = filled(1, 1);
        for (int i = 1; i < 64; i++) {
            int handle = x.putBehind(0, i, 1, 0);
            due("the handle", 1000 * i, handle);
            due("it is second", handle, x.at(1));
            due("it is good", 0, x.refusal(handle));
        }
        x.remove(0);
        due("in the first cell", 1, x.putBehind(63000, 0, 1, 0));
        due("second", 1, x.at(1));
        due("the last of the row", 1000, x.at(63));
    }

    private static void putBehindRanges() {
        StampedSlots x = filled(1, 1);
        int[][] wrong = {{-1, 1, 0}, {1000, 1, 0}, {0, 0, 0}, {0, 5, 0}, {0, 1, -1}, {0, 1, 3}, {-1, 0, 0}, {0, 5, 3},
            {1000, 4, 3}, {-1, 0, -1}, {1000, 5, 3}, {LEAST, LEAST, LEAST}, {MOST, MOST, MOST}};
        for (int[] a : wrong) {
            thrown(x, "putBehind of 0, " + a[0] + ", " + a[1] + ", " + a[2], ARGUMENT,
                    () -> x.putBehind(0, a[0], a[1], a[2]));
        }
        due("all at their least", 1000, x.putBehind(0, 0, 1, 0));
        due("all at their most", 2000, x.putBehind(0, 999, 4, 2));
        due("value", 999, x.thing(2000, 0));
        due("size", 4, x.thing(2000, 1));
        due("kind", 2, x.thing(2000, 2));
        row(x, 0, 2000, 1000);
    }

    private static void putBehindWithoutRoom() {
        StampedSlots x = full();
        outOf("putBehind, full", STATE, x, (s, size) -> s.putBehind(0, 0, size, 0), 1, 2, 3, 4);
        StampedSlots y = fullOfHoles();
        outOf("putBehind, holes of one", STATE, y, (s, size) -> s.putBehind(0, 0, size, 0), 2, 3, 4);
        due("one fits", 3001, y.putBehind(0, 0, 1, 0));
        StampedSlots z = filled(4, 4);
        due("room by growth", 16000, z.putBehind(12000, 0, 4, 0));
        due("cells", 32, z.count(2));
    }

    // ---- Promises 4 and 5

    private static void removeAndChange() {
        sentence("Promise 4", "Returns its value.", RangeTest::removeReturns);
        sentence("Promise 4", "Throws `IndexOutOfBoundsException` if the handle is refused", RangeTest::removeHandle);
        sentence("Promise 5", "`value`: 0 to 999", RangeTest::changeValue);
        sentence("Promise 5", "Returns the previous value.", RangeTest::changeReturns);
        sentence("Promise 5", "Throws `IndexOutOfBoundsException` if the handle is refused", RangeTest::changeHandle);
        sentence("Promise 5", "Throws `IllegalArgumentException` if value is out of range", RangeTest::changeRange);
    }

    private static void removeReturns() {
        StampedSlots x = with("0*1,999*4,5*2!,6*1+");
        x.change(7000, 60);
        due("the most", 999, x.remove(1000));
        due("the only one with this value", 5, x.remove(5000));
        due("the least", 0, x.remove(0));
        due("what it was changed to", 60, x.remove(7000));
        counts(x, 0, 0, 16, 16, 0, 0, 4, 4, 0, 6);
        StampedSlots y = filled(64, 1);
        due("the last of a full store", 63, y.remove(63000));
        due("the first of it", 0, y.remove(0));
        due("things", 62, y.count(0));
        due("the first of the row", 1000, y.at(0));
        due("the last of the row", 62000, y.at(61));
    }

    private static void removeHandle() {
        StampedSlots x = with("1*2,2*1");
        due("a good one", 2, x.remove(2000));
        outOf("remove", INDEX, x, (s, handle) -> s.remove(handle),
                -1, 1, 1000, 2000, 2001, 3000, 15999, 16000, 64000, LEAST, MOST);
        x.remove(0);
        outOf("remove of all that were", INDEX, x, (s, handle) -> s.remove(handle), 0, 1, 2000, 2001);
    }

    private static void changeValue() {
        StampedSlots x = with("5*1");
        answers("change", (s, value) -> s.change(0, value), x, ints(0, 1, 998, 999, 0), ints(5, 0, 1, 998, 999));
        due("as it was", 0, x.thing(0, 0));
    }

    private static void changeRange() {
        StampedSlots x = with("5*1,6*1");
        outOf("change", ARGUMENT, x, (s, value) -> s.change(1000, value), -1, -2, 1000, 1001, LEAST, MOST);
        due("as it was", 6, x.thing(1000, 0));
    }

    private static void changeReturns() {
        StampedSlots x = with("5*2!,6*2+");
        due("once", 5, x.change(0, 7));
        due("double", 6, x.change(2000, 8));
        due("the same again", 7, x.change(0, 7));
        due("and again", 7, x.change(0, 0));
        due("size", 2, x.thing(0, 1));
        due("kind", 1, x.thing(0, 2));
        due("the values of all", 8, x.count(4));
        row(x, 0, 2000);
    }

    private static void changeHandle() {
        StampedSlots x = with("1*2,2*1");
        x.remove(2000);
        outOf("change", INDEX, x, (s, handle) -> s.change(handle, 0),
                -1, 1, 1000, 2000, 2001, 3000, 15999, 16000, 64000, LEAST, MOST);
    }

    // ---- Promises 6 to 8

    private static void walkerCalls() {
        sentence("Promise 6", "`walker`: 0 to 3", RangeTest::eachRestarts);
        sentence("Promise 6", "Returns where it stood: 0 ahead of the row, 1 on a thing, 2 on a tombstone, 3 behind"
                + " the row.", RangeTest::restartReturns);
        sentence("Promise 6", "Throws `IndexOutOfBoundsException` if there is no such walker", () -> noSuchWalker(
                (s, walker) -> s.restart(walker)));
        sentence("Promise 7", "`walker`: 0 to 3", RangeTest::eachGoesOn);
        sentence("Promise 7", "Returns the handle of the thing on which it stands then, NONE if it stands behind the"
                + " row.", RangeTest::goOnReturns);
        sentence("Promise 7", "Throws `IndexOutOfBoundsException` if there is no such walker", () -> noSuchWalker(
                (s, walker) -> s.goOn(walker)));
        sentence("Promise 8", "`walker`: 0 to 3", RangeTest::eachTakes);
        sentence("Promise 8", "Removes the thing on which a walker stands; the walker stays there, on its tombstone.",
                RangeTest::takeStays);
        sentence("Promise 8", "Returns the value of the thing.", RangeTest::takeReturns);
        sentence("Promise 8", "Throws `IndexOutOfBoundsException` if there is no such walker", () -> noSuchWalker(
                (s, walker) -> s.take(walker)));
        sentence("Promise 8", "Throws `IllegalStateException` if it does not stand on a thing",
                RangeTest::takeOfNothing);
    }

    private static StampedSlots fourOnTheFirst() {
        StampedSlots x = with("1*1,2*1");
        for (int walker = 0; walker < 4; walker++) {
            x.goOn(walker);
        }
        return x;
    }

    private static void noSuchWalker(Use use) {
        StampedSlots x = fourOnTheFirst();
        outOf("walker", INDEX, x, use, -1, 4, 5, LEAST, MOST);
        for (int walker = 0; walker < 4; walker++) {
            use.of(fourOnTheFirst(), walker);
        }
    }

    private static void eachRestarts() {
        for (int walker = 0; walker < 4; walker++) {
            StampedSlots x = fourOnTheFirst();
            due("restart", 1, x.restart(walker));
            for (int other = 0; other < 4; other++) {
                walker(x, other, other == walker ? 0 : 1, other == walker ? -1 : 0, other == walker ? 2 : 1);
            }
        }
    }

    private static void eachGoesOn() {
        for (int walker = 0; walker < 4; walker++) {
            StampedSlots x = fourOnTheFirst();
            due("goOn", 1000, x.goOn(walker));
            for (int other = 0; other < 4; other++) {
                walker(x, other, 1, other == walker ? 1000 : 0, other == walker ? 0 : 1);
            }
        }
    }

    private static void eachTakes() {
        for (int walker = 0; walker < 4; walker++) {
            StampedSlots x = fourOnTheFirst();
            x.goOn(walker);
            due("take", 2, x.take(walker));
            for (int other = 0; other < 4; other++) {
                walker(x, other, other == walker ? 2 : 1, other == walker ? -1 : 0, 0);
            }
            row(x, 0);
        }
    }

    private static void restartReturns() {
        StampedSlots x = with("1*1,2*1,3*1");
        answers("restart, at first", (s, walker) -> s.restart(walker), x, ints(0, 1, 2, 3), ints(0, 0, 0, 0));
        for (int walker = 1; walker < 4; walker++) {
            for (int i = 0; i <= walker; i++) {
                x.goOn(walker);
            }
        }
        x.take(2);
        answers("restart", (s, walker) -> s.restart(walker), x, ints(0, 1, 2, 3), ints(0, 1, 2, 3));
        answers("restart again", (s, walker) -> s.restart(walker), x, ints(0, 1, 2, 3), ints(0, 0, 0, 0));
        due("the tombstone is gone", 0, x.count(1));
    }

    private static void goOnReturns() {
        StampedSlots x = with("1*4,2*1!,3*3");
        answers("goOn", (s, walker) -> s.goOn(walker), x, ints(3, 3, 3, 3, 3), ints(0, 4000, 5000, -1, -1));
        x.fire();
        answers("goOn over what is gone", (s, walker) -> s.goOn(walker), x, ints(0, 0, 0), ints(0, 5000, -1));
        x.remove(0);
        x.together();
        answers("goOn to what was moved", (s, walker) -> s.goOn(walker), x, ints(1, 1), ints(1, -1));
    }

    private static void takeStays() {
        StampedSlots x = with("1*2,2*1,3*1");
        x.goOn(0);
        x.goOn(0);
        x.goOn(1);
        x.goOn(1);
        x.take(0);
        walker(x, 0, 2, -1, 1);
        walker(x, 1, 2, -1, 1);
        counts(x, 2, 1, 16, 13, 4, 0, 3, 1, 0, 6);
        row(x, 0, 3000);
        due("goOn from there", 3000, x.goOn(0));
        due("the tombstone has another one", 1, x.count(1));
        due("goOn of the other one", 3000, x.goOn(1));
        due("no tombstone", 0, x.count(1));
        due("the handle is stale", 2, x.refusal(2000));
        x.take(0);
        due("the last of the row", 1, x.count(1));
        walker(x, 1, 2, -1, 0);
    }

    private static void takeReturns() {
        StampedSlots x = with("0*1,999*1,5*1");
        x.goOn(2);
        due("the least", 0, x.take(2));
        x.goOn(2);
        due("the most", 999, x.take(2));
        x.goOn(2);
        x.change(2000, 6);
        due("what it was changed to", 6, x.take(2));
        row(x);
        due("removed", 3, x.count(7));
    }

    private static void takeOfNothing() {
        StampedSlots x = with("1*1,2*1");
        outOf("take ahead of the row", STATE, x, (s, walker) -> s.take(walker), 0, 1, 2, 3);
        x.goOn(0);
        x.goOn(1);
        x.take(0);
        outOf("take on a tombstone", STATE, x, (s, walker) -> s.take(walker), 0, 1);
        x.goOn(0);
        x.goOn(0);
        outOf("take behind the row", STATE, x, (s, walker) -> s.take(walker), 0);
        outOf("take in an empty row", STATE, new StampedSlots(), (s, walker) -> s.take(walker), 0, 3);
    }

    // ---- Promises 9 to 15

    private static void eventsAndTexts() {
        sentence("Promise 9", "Returns the sum of the values of the things that are fired.", RangeTest::fireReturns);
        sentence("Promise 10", "Returns how many things are moved.", RangeTest::togetherReturns);
        sentence("Promise 11", "`code`: the character code, 33 to 126", RangeTest::appendCode);
        sentence("Promise 11", "Returns the new length of the buffer.", RangeTest::appendReturns);
        sentence("Promise 11", "Throws `IllegalArgumentException` if code is not 33 to 126",
                RangeTest::appendOutOfRange);
        sentence("Promise 11", "Throws `IllegalStateException` if the buffer has 60 characters",
                RangeTest::appendToFull);
        sentence("Promise 12", "Returns the length that it had.", RangeTest::clearReturns);
        sentence("Promise 13", "Returns the index of the first character that is a syntax error; the length of the"
                + " buffer if there is none.", RangeTest::firstErrorReturns);
        sentence("Promise 14", "Puts the things in the buffer at the end of the row, one behind the other; those for"
                + " which there is no room are left out; and clears the buffer.", RangeTest::putAllPuts);
        sentence("Promise 14", "Undoable, as one call.", RangeTest::putAllIsOneCall);
        sentence("Promise 14", "Returns how many are put.", RangeTest::putAllReturns);
        sentence("Promise 14", "Throws `IllegalArgumentException` if the buffer is not complete things as a text",
                RangeTest::putAllOfWrongTexts);
        sentence("Promise 15", "Restores the latest saved state, and drops it.", RangeTest::undoRestores);
        sentence("Promise 15", "Returns how many saved states are left.", RangeTest::undoReturns);
        sentence("Promise 15", "Throws `IllegalStateException` if there is none", RangeTest::undoOfNone);
    }

    private static void fireReturns() {
        due("no things", 0, new StampedSlots().fire());
        due("a thing of 0", 0, with("0*1").fire());
        due("a thing of 999", 999, with("999*1").fire());
        due("of each kind, each once", 111, with("1*1,10*1!,100*1+").fire());
        StampedSlots x = new StampedSlots();
        for (int i = 0; i < 64; i++) {
            x.put(999, 1, 2);
        }
        due("the most things, doubles without room", 64 * 999, x.fire());
        due("things", 64, x.count(0));
        due("the same again", 64 * 999, x.fire());
        due("events", 2, x.count(5));
    }

    private static void togetherReturns() {
        due("no things", 0, new StampedSlots().together());
        StampedSlots x = filled(64, 1);
        due("all lie so", 0, x.together());
        x.remove(63000);
        due("the last is gone", 0, x.together());
        x.remove(61000);
        due("the one ahead of the last", 1, x.together());
        x.remove(0);
        due("the first", 61, x.together());
        due("moved so far", 62, x.count(8));
        due("nothing is left to move", 0, x.together());
        due("moved so far", 62, x.count(8));
    }

    private static void appendCode() {
        StampedSlots x = new StampedSlots();
        answers("append", (s, code) -> s.append(code), x, ints(33, 34, 125, 126), ints(1, 2, 3, 4));
        for (int code = 33; code <= 126; code++) {
            StampedSlots y = new StampedSlots();
            due("append of " + code, 1, y.append(code));
        }
        StampedSlots z = new StampedSlots();
        z.append('!');
        StampedSlots w = new StampedSlots();
        w.append('~');
        due("the least and the most are held apart", '~' - '!', w.digest() - z.digest());
    }

    private static void appendOutOfRange() {
        StampedSlots x = new StampedSlots();
        x.append('1');
        outOf("append", ARGUMENT, x, (s, code) -> s.append(code), -1, 0, 10, 31, 32, 127, 128, 33 + 65536, LEAST, MOST);
        due("length", 1, x.clearBuffer());
    }

    private static void appendReturns() {
        StampedSlots x = new StampedSlots();
        for (int i = 1; i <= 60; i++) {
            due("append", i, x.append(32 + i));
        }
        x.clearBuffer();
        due("append to the cleared one", 1, x.append('1'));
        x.append('*');
        x.append('1');
        x.putAll();
        due("append behind putAll", 1, x.append('1'));
        x.undo();
        due("append behind undo", 2, x.append('1'));
    }

    private static void appendToFull() {
        StampedSlots x = new StampedSlots();
        type(x, repeated("x", 59));
        due("the 60th", 60, x.append('y'));
        outOf("the 61st", STATE, x, (s, code) -> s.append(code), 33, 126);
        due("length", 60, x.clearBuffer());
        due("from 1", 1, x.append('z'));
    }

    private static void clearReturns() {
        StampedSlots x = new StampedSlots();
        due("empty", 0, x.clearBuffer());
        x.append('1');
        due("one", 1, x.clearBuffer());
        due("empty then", 0, x.clearBuffer());
        type(x, repeated("x", 60));
        due("the most", 60, x.clearBuffer());
        due("empty then", 0, x.clearBuffer());
        due("not undoable", 0, x.count(9));
    }

    private static void firstErrorReturns() {
        StampedSlots x = new StampedSlots();
        due("empty", 0, x.firstError());
        type(x, "x");
        due("the first one", 0, x.firstError());
        type(x, "1*4");
        due("none", 3, x.firstError());
        type(x, "1*45");
        due("the last one", 3, x.firstError());
        type(x, "1*4!5*4!");
        due("the first of several", 4, x.firstError());
        due("again", 4, x.firstError());
        type(x, repeated("9", 60));
        due("long", 3, x.firstError());
        type(x, repeated("1*1+,", 12));
        due("none in the longest", 60, x.firstError());
        type(x, repeated("1*1+,", 11) + "1*1++");
        due("the very last of the longest", 59, x.firstError());
        due("not undoable", 0, x.count(9));
    }

    private static void putAllPuts() {
        StampedSlots x = filled(3, 1);
        x.remove(0);
        type(x, "11*2,12*1!,13*1+");
        due("put", 3, x.putAll());
        row(x, 1000, 2000, 3000, 1, 5000);
        due("once", 1, x.thing(1, 2));
        due("double", 2, x.thing(5000, 2));
        due("cleared", 0, x.clearBuffer());
        StampedSlots y = full();
        y.remove(60000);
        type(y, "1*3,2*2,3*4,4*1,5*1");
        due("those that fit", 2, y.putAll());
        due("the first", 1, y.thing(60001, 0));
        due("the fourth", 4, y.thing(63000, 0));
        due("no cell is left", 0, y.count(3));
        due("cleared", 0, y.clearBuffer());
        type(y, "1*1");
        due("nothing fits", 0, y.putAll());
        due("cleared all the same", 0, y.clearBuffer());
        due("saved all the same", 6, y.count(9));
    }

    private static void putAllIsOneCall() {
        StampedSlots x = new StampedSlots();
        type(x, "1*4,2*4,3*4,4*4,5*4");
        x.putAll();
        due("saved", 1, x.count(9));
        due("cells", 32, x.count(2));
        due("undo", 0, x.undo());
        counts(x, 0, 0, 16, 16, 0, 0, 0, 0, 0, 0);
        due("the buffer is not restored", 0, x.clearBuffer());
    }

    private static void putAllReturns() {
        StampedSlots x = new StampedSlots();
        type(x, "0*1");
        due("one", 1, x.putAll());
        type(x, repeated("0*4,", 14) + "0*4");
        due("most", 15, x.putAll());
        due("cells of growth", 64, x.count(2));
        type(x, repeated("0*4,", 14) + "0*2");
        due("only the last one fits", 1, x.putAll());
        type(x, "0*2");
        due("none fits", 0, x.putAll());
        due("one cell is left", 1, x.count(3));
        due("put so far", 17, x.count(6));
    }

    private static void putAllOfWrongTexts() {
        for (String text : new String[] {"", ",", "1", "12", "123", "0", "1*", "1*1,", "1*1!,", "1*5", "1*0", "01*1",
            "1000*1", "1*1!!", "1*1+!", "1*1,,1*1", ",1*1", "1*1x", "x", "1*1,1", repeated("1*1,", 15)}) {
            StampedSlots x = filled(1, 1);
            type(x, text);
            thrown(x, "putAll of " + text, ARGUMENT, () -> x.putAll());
            due("the buffer stays", text.length(), x.clearBuffer());
            row(x, 0);
            due("saved", 1, x.count(9));
        }
        StampedSlots y = full();
        type(y, "1*1,");
        thrown(y, "putAll without room", ARGUMENT, () -> y.putAll());
    }

    private static void undoRestores() {
        StampedSlots x = filled(1, 1);
        x.change(0, 1);
        x.change(0, 2);
        due("undo", 2, x.undo());
        due("the latest first", 1, x.thing(0, 0));
        due("undo", 1, x.undo());
        due("then the one before", 0, x.thing(0, 0));
        x.change(0, 3);
        due("undo of what came then", 1, x.undo());
        due("the one before still", 0, x.thing(0, 0));
        due("undo", 0, x.undo());
        row(x);
        due("the same handle again", 0, x.put(1, 1, 0));
    }

    private static void undoReturns() {
        StampedSlots x = filled(9, 1);
        for (int left = 5; left >= 0; left--) {
            due("undo", left, x.undo());
        }
        row(x, 0, 1000, 2000);
        StampedSlots y = filled(1, 1);
        due("the only one", 0, y.undo());
    }

    private static void undoOfNone() {
        StampedSlots x = new StampedSlots();
        thrown(x, "undo of a new object", STATE, () -> x.undo());
        x.append('1');
        thrown(x, "undo of append", STATE, () -> x.undo());
        x.goOn(0);
        x.undo();
        thrown(x, "undo of what is undone", STATE, () -> x.undo());
        due("the buffer", 1, x.clearBuffer());
        walker(x, 0, 0, -1, 0);
    }

    // ---- Promises 16 to 21

    private static void looks() {
        sentence("Promise 16", "Returns the reason, 1 to 3; 0 if it is a handle of a thing.",
                RangeTest::refusalReturns);
        sentence("Promise 17", "`what`: 0: its value; 1: its size; 2: its kind; 3: how often it was fired; 4: its place"
                + " in the row, from 0, without tombstones; 5: how many walkers stand on it", RangeTest::thingWhat);
        sentence("Promise 17", "Throws `IndexOutOfBoundsException` if the handle is refused", RangeTest::thingHandle);
        sentence("Promise 17", "Throws `IllegalArgumentException` if what is not 0 to 5", RangeTest::thingWrongWhat);
        sentence("Promise 18", "`place`: the place, from 0, without tombstones", RangeTest::atPlace);
        sentence("Promise 18", "Returns the handle, NONE if there are not so many things.", RangeTest::atReturns);
        sentence("Promise 18", "Throws `IllegalArgumentException` if place is below 0", RangeTest::atBelow);
        sentence("Promise 19", "`what`: 0: its stamp; 1: the handle of the thing that has it, NONE if it is free",
                RangeTest::cellWhat);
        sentence("Promise 19", "Throws `IndexOutOfBoundsException` if it is not a cell of the store",
                RangeTest::cellNumber);
        sentence("Promise 19", "Throws `IllegalArgumentException` if what is not 0 or 1", RangeTest::cellWrongWhat);
        sentence("Promise 20", "`walker`: 0 to 3", RangeTest::eachWalker);
        sentence("Promise 20", "`what`: 0: where it stands, as with restart(); 1: the handle of the thing on which it"
                + " stands, NONE if it stands on none; 2: how many things are behind it in the row",
                RangeTest::walkerWhat);
        sentence("Promise 20", "Throws `IndexOutOfBoundsException` if there is no such walker", () -> noSuchWalker(
                (s, walker) -> s.walker(walker, 0) + s.walker(walker, 1) + s.walker(walker, 2)));
        sentence("Promise 20", "Throws `IllegalArgumentException` if what is not 0 to 2", RangeTest::walkerWrongWhat);
        sentence("Promise 21", "`what`: 0: things; 1: tombstones; 2: cells of the store; 3: free ones; 4: the values of"
                + " all things together; 5: events so far; 6: things that were put so far, also by events; 7: things"
                + " that were removed so far, also by events; 8: things that were moved so far; 9: saved states",
                RangeTest::countWhat);
        sentence("Promise 21", "Throws `IllegalArgumentException` if what is not 0 to 9", RangeTest::countWrongWhat);
    }

    private static void refusalReturns() {
        StampedSlots x = filled(64, 1);
        Use refusal = (s, handle) -> s.refusal(handle);
        answers("refusal", refusal, x, ints(0, 63000, 1, 63001, 63999, 64000, -1, LEAST, MOST),
                ints(0, 0, 2, 2, 2, 1, 1, 1, 1));
        x.remove(63000);
        answers("refusal behind the removal", refusal, x, ints(63000, 63001, 63002, 62000), ints(2, 3, 2, 0));
        x.undo();
        answers("refusal behind undo", refusal, x, ints(63000, 63001), ints(0, 2));
        StampedSlots y = with("1*4");
        answers("refusal of inner cells", refusal, y, ints(0, 1000, 2000, 3000, 3001, 4000),
                ints(0, 3, 3, 3, 2, 3));
    }

    private static void thingWhat() {
        StampedSlots x = with("7*1,999*4!,0*3+");
        for (int walker = 0; walker < 4; walker++) {
            x.goOn(walker);
            x.goOn(walker);
        }
        answers("thing(1000)", (s, what) -> s.thing(1000, what), x, ints(0, 1, 2, 3, 4, 5), ints(999, 4, 1, 0, 1, 4));
        answers("thing(5000)", (s, what) -> s.thing(5000, what), x, ints(0, 1, 2, 3, 4, 5), ints(0, 3, 2, 0, 2, 0));
        x.fire();
        x.fire();
        due("the tombstone", 1, x.count(1));
        answers("thing(0)", (s, what) -> s.thing(0, what), x, ints(0, 1, 2, 3, 4, 5), ints(7, 1, 0, 2, 0, 0));
        answers("thing(5000)", (s, what) -> s.thing(5000, what), x, ints(0, 1, 2, 3, 4, 5), ints(0, 3, 2, 2, 1, 0));
        x.goOn(1);
        x.goOn(2);
        x.restart(3);
        due("two walkers", 2, x.thing(5000, 5));
        due("none ahead of the row", 0, x.thing(0, 5));
        StampedSlots y = filled(64, 1);
        due("the last place", 63, y.thing(63000, 4));
    }

    private static void thingHandle() {
        StampedSlots x = with("1*2,2*1");
        x.remove(2000);
        outOf("thing", INDEX, x, (s, handle) -> s.thing(handle, 0),
                -1, 1, 1000, 2000, 2001, 3000, 15999, 16000, 64000, LEAST, MOST);
    }

    private static void thingWrongWhat() {
        outOf("thing", ARGUMENT, filled(1, 1), (s, what) -> s.thing(0, what), -1, 6, LEAST, MOST);
    }

    private static void atPlace() {
        StampedSlots x = filled(4, 1);
        x.goOn(0);
        x.take(0);
        x.goOn(1);
        x.goOn(1);
        x.take(1);
        due("tombstones", 2, x.count(1));
        answers("at", (s, place) -> s.at(place), x, ints(0, 1, 2), ints(1000, 3000, -1));
        due("the place of the first", 0, x.thing(1000, 4));
        due("the place of the last", 1, x.thing(3000, 4));
        x.remove(1000);
        x.remove(3000);
        due("tombstones alone", -1, x.at(0));
    }

    private static void atReturns() {
        due("an empty row", -1, new StampedSlots().at(0));
        StampedSlots x = filled(64, 1);
        answers("at", (s, place) -> s.at(place), x, ints(0, 1, 62, 63, 64, 65, 68, MOST),
                ints(0, 1000, 62000, 63000, -1, -1, -1, -1));
        x.goOn(0);
        x.take(0);
        answers("at, with a tombstone", (s, place) -> s.at(place), x, ints(0, 62, 63), ints(1000, 63000, -1));
    }

    private static void atBelow() {
        outOf("at", ARGUMENT, filled(1, 1), (s, place) -> s.at(place), -1, -2, LEAST);
    }

    private static void cellWhat() {
        StampedSlots x = with("1*1,2*3,3*4");
        x.remove(1000);
        answers("its stamp", (s, cell) -> s.cell(cell, 0), x, ints(0, 1, 2, 3, 4, 7, 8, 15),
                ints(0, 1, 0, 0, 0, 0, 0, 0));
        answers("its thing", (s, cell) -> s.cell(cell, 1), x, ints(0, 1, 2, 3, 4, 7, 8, 15),
                ints(0, -1, -1, -1, 4000, 4000, -1, -1));
        x.put(4, 2, 0);
        answers("its thing then", (s, cell) -> s.cell(cell, 1), x, ints(1, 2, 3), ints(1001, 1001, -1));
        due("no stamp of an inner cell", 0, x.cell(2, 0));
    }

    private static void cellNumber() {
        StampedSlots x = new StampedSlots();
        outOf("cell of 16", INDEX, x, (s, cell) -> s.cell(cell, 0), -1, 16, 17, 32, 63, 64, LEAST, MOST);
        outOf("cell of 16", INDEX, x, (s, cell) -> s.cell(cell, 1), -1, 16, MOST);
        due("the last", -1, x.cell(15, 1));
        StampedSlots y = filled(5, 4);
        outOf("cell of 32", INDEX, y, (s, cell) -> s.cell(cell, 1), -1, 32, 63, 64);
        due("the last", -1, y.cell(31, 1));
        StampedSlots z = filled(9, 4);
        outOf("cell of 64", INDEX, z, (s, cell) -> s.cell(cell, 1), -1, 64, 65, LEAST, MOST);
        due("the last", -1, z.cell(63, 1));
        z.undo();
        outOf("cell of 32 again", INDEX, z, (s, cell) -> s.cell(cell, 1), 32);
    }

    private static void cellWrongWhat() {
        outOf("cell", ARGUMENT, filled(1, 1), (s, what) -> s.cell(0, what), -1, 2, LEAST, MOST);
    }

    private static void eachWalker() {
        StampedSlots x = filled(3, 1);
        for (int walker = 1; walker < 4; walker++) {
            for (int i = 0; i < walker; i++) {
                x.goOn(walker);
            }
        }
        Use walker = (s, number) -> s.walker(number, 1);
        answers("walker", walker, x, ints(0, 1, 2, 3), ints(-1, 0, 1000, 2000));
        answers("things behind", (s, number) -> s.walker(number, 2), x, ints(0, 1, 2, 3), ints(3, 2, 1, 0));
        outOf("walker", INDEX, x, walker, -1, 4);
    }

    private static void walkerWhat() {
        StampedSlots x = with("1*1,2*2,3*1");
        walker(x, 0, 0, -1, 3);
        int[] stands = {1, 1, 1, 3, 3};
        int[] handles = {0, 1000, 3000, -1, -1};
        int[] behind = {2, 1, 0, 0, 0};
        for (int i = 0; i < 5; i++) {
            x.goOn(0);
            walker(x, 0, stands[i], handles[i], behind[i]);
        }
        x.goOn(1);
        x.goOn(1);
        x.take(1);
        walker(x, 1, 2, -1, 1);
        x.put(1, 1, 0);
        walker(x, 1, 2, -1, 2);
        walker(x, 0, 3, -1, 0);
        walker(x, 3, 0, -1, 3);
        StampedSlots y = filled(64, 1);
        walker(y, 3, 0, -1, 64);
        y.goOn(3);
        walker(y, 3, 1, 0, 63);
    }

    private static void walkerWrongWhat() {
        outOf("walker", ARGUMENT, filled(1, 1), (s, what) -> s.walker(3, what), -1, 3, LEAST, MOST);
    }

    private static void countWhat() {
        StampedSlots x = with("7*1!,8*2+,9*1");
        counts(x, 3, 0, 16, 12, 24, 0, 3, 0, 0, 1);
        x.goOn(0);
        x.fire();
        counts(x, 3, 1, 16, 11, 25, 1, 4, 1, 0, 3);
        x.remove(3000);
        counts(x, 2, 1, 16, 12, 16, 1, 4, 2, 0, 4);
        x.together();
        counts(x, 2, 1, 16, 12, 16, 1, 4, 2, 2, 5);
        x.putBehind(1, 5, 4, 0);
        counts(x, 3, 1, 16, 8, 21, 1, 5, 2, 2, 6);
        x.undo();
        counts(x, 2, 1, 16, 12, 16, 1, 4, 2, 2, 5);
        x.restart(0);
        x.goOn(0);
        x.take(0);
        counts(x, 1, 1, 16, 14, 8, 1, 4, 3, 2, 6);
        StampedSlots y = new StampedSlots();
        for (int i = 0; i < 64; i++) {
            y.put(999, 1, 0);
        }
        counts(y, 64, 0, 64, 0, 64 * 999, 0, 64, 0, 0, 6);
    }

    private static void countWrongWhat() {
        outOf("count", ARGUMENT, filled(1, 1), (s, what) -> s.count(what), -1, 10, LEAST, MOST);
    }

    // ---- Promises 22 to 27

    private static void whatWouldBe() {
        sentence("Promise 22", "`size`: 1 to 4", RangeTest::beginsSize);
        sentence("Promise 22", "Throws `IllegalArgumentException` if size is out of range", RangeTest::beginsRange);
        sentence("Promise 22", "Returns the cell, NONE if there is no room.", RangeTest::beginsReturns);
        sentence("Promise 23", "`what`: 0: how many they are; 1: the first of them, of several rows the lowest, NONE if"
                + " no cell is free", RangeTest::gapWhat);
        sentence("Promise 23", "Throws `IllegalArgumentException` if what is not 0 or 1", RangeTest::gapWrongWhat);
        sentence("Promise 24", "`events`: 1 to 9", RangeTest::ifFiredEvents);
        sentence("Promise 24", "`what`: 0: the sums of all of them together; 1: things then; 2: cells of the store"
                + " then", RangeTest::ifFiredWhat);
        sentence("Promise 24", "Throws `IllegalArgumentException` if events or what is out of range",
                RangeTest::ifFiredWrong);
        sentence("Promise 25", "Tells how many things of a size there would be room for, without growth.",
                RangeTest::roomWithoutGrowth);
        sentence("Promise 25", "`isTogether`: whether all things were moved together first", RangeTest::roomTogether);
        sentence("Promise 25", "`size`: 1 to 4", RangeTest::roomOfEachSize);
        sentence("Promise 25", "Returns how many, one put behind the other.", RangeTest::roomByPutting);
        sentence("Promise 25", "Throws `IllegalArgumentException` if size is out of range", RangeTest::roomSize);
        sentence("Promise 26", "Returns the cells that are not free, as a double, divided by all cells of the store.",
                RangeTest::fullness);
        sentence("Promise 27", "The hash starts at 3251.", RangeTest::digestOfNew);
        sentence("Promise 27", "For each value v of the following list, in order, the hash becomes 31 * hash + v, in"
                + " long arithmetic with overflow.", RangeTest::digestOfFull);
        sentence("Promise 27", "for each place of the row the handle, and thing of it with 0 to 5; for each cell its"
                + " stamp, and cell with 1; for each walker its numbers 0 to 2; begins of 1 to 4; gap with 0 and 1;"
                + " ifFired of 2 events with 0 to 2; room of 1 to 4, each without and then with moving",
                RangeTest::digestByLooks);
        sentence("Promise 27", "the bits of fullness (as Double.doubleToLongBits)", RangeTest::digestOfShares);
        sentence("Promise 27", "the length of the buffer and each of its character codes", RangeTest::digestOfBuffer);
    }

    private static void beginsSize() {
        StampedSlots x = filled(3, 1);
        answers("begins", (s, size) -> s.begins(size), x, ints(1, 2, 3, 4), ints(3, 3, 3, 3));
        x.remove(1000);
        answers("begins", (s, size) -> s.begins(size), x, ints(1, 2, 3, 4), ints(1, 3, 3, 3));
    }

    private static void beginsRange() {
        outOf("begins", ARGUMENT, filled(1, 1), (s, size) -> s.begins(size), -1, 0, 5, LEAST, MOST);
        outOf("begins, full", ARGUMENT, full(), (s, size) -> s.begins(size), -1, 0, 5, LEAST, MOST);
    }

    private static void beginsReturns() {
        Use begins = (s, size) -> s.begins(size);
        answers("empty", begins, new StampedSlots(), ints(1, 4), ints(0, 0));
        StampedSlots x = filled(15, 1);
        answers("one cell is free, the rest by growth", begins, x, ints(1, 2, 3, 4), ints(15, 15, 15, 15));
        due("no growth yet", 16, x.count(2));
        answers("all by growth", begins, filled(4, 4), ints(1, 4), ints(16, 16));
        answers("all by the second growth", begins, filled(8, 4), ints(1, 4), ints(32, 32));
        answers("no room", begins, full(), ints(1, 2, 3, 4), ints(-1, -1, -1, -1));
        answers("holes of one", begins, fullOfHoles(), ints(1, 2, 3, 4), ints(3, -1, -1, -1));
        StampedSlots y = filled(64, 1);
        y.remove(63000);
        y.remove(62000);
        y.remove(61000);
        answers("the last three", begins, y, ints(1, 2, 3, 4), ints(61, 61, 61, -1));
    }

    private static void gapWhat() {
        Use gap = (s, what) -> s.gap(what);
        answers("empty", gap, new StampedSlots(), ints(0, 1), ints(16, 0));
        answers("16 without a free cell", gap, filled(4, 4), ints(0, 1), ints(0, -1));
        answers("64 without a free cell", gap, full(), ints(0, 1), ints(0, -1));
        answers("of sixteen rows the lowest", gap, fullOfHoles(), ints(0, 1), ints(1, 3));
        StampedSlots x = filled(16, 1);
        x.remove(15000);
        answers("the last cell", gap, x, ints(0, 1), ints(1, 15));
        x.remove(0);
        answers("the first cell", gap, x, ints(0, 1), ints(1, 0));
        x.remove(14000);
        answers("the longest is the last", gap, x, ints(0, 1), ints(2, 14));
        x.remove(5000);
        x.remove(7000);
        x.remove(6000);
        answers("the longest is in the middle", gap, x, ints(0, 1), ints(3, 5));
        x.remove(10000);
        x.remove(11000);
        x.remove(9000);
        answers("of two the lower", gap, x, ints(0, 1), ints(3, 5));
        x.remove(12000);
        answers("the longer", gap, x, ints(0, 1), ints(4, 9));
        answers("the rest of 32", gap, filled(17, 1), ints(0, 1), ints(15, 17));
        answers("the rest of 64", gap, filled(33, 1), ints(0, 1), ints(31, 33));
    }

    private static void gapWrongWhat() {
        outOf("gap", ARGUMENT, filled(1, 1), (s, what) -> s.gap(what), -1, 2, LEAST, MOST);
    }

    private static void ifFiredEvents() {
        StampedSlots x = with("10*1+,3*1!");
        answers("the sums", (s, events) -> s.ifFired(events, 0), x, ints(1, 2, 3, 8, 9), ints(13, 33, 63, 363, 453));
        answers("things", (s, events) -> s.ifFired(events, 1), x, ints(1, 2, 3, 8, 9), ints(2, 3, 4, 9, 10));
        int sum = 0;
        for (int events = 1; events <= 9; events++) {
            StampedSlots y = with("10*1+,3*1!");
            int things = y.ifFired(events, 1);
            sum = 0;
            for (int i = 0; i < events; i++) {
                sum += y.fire();
            }
            due("as by firing", sum, x.ifFired(events, 0));
            due("things as by firing", y.count(0), things);
        }
        due("the last sum", 453, sum);
    }

    private static void ifFiredWhat() {
        answers("empty", (s, what) -> s.ifFired(9, what), new StampedSlots(), ints(0, 1, 2), ints(0, 0, 16));
        StampedSlots x = with("9*4+,9*4+,9*4+,9*4+");
        answers("one event", (s, what) -> s.ifFired(1, what), x, ints(0, 1, 2), ints(36, 8, 32));
        answers("two events", (s, what) -> s.ifFired(2, what), x, ints(0, 1, 2), ints(108, 12, 64));
        answers("nine events", (s, what) -> s.ifFired(9, what), x, ints(0, 1, 2),
                ints(36 + 72 + 108 + 6 * 144, 16, 64));
        answers("a thing each", (s, what) -> s.ifFired(1, what), with("5*1!,6*1!"), ints(0, 1, 2), ints(11, 0, 16));
        answers("a full store", (s, what) -> s.ifFired(9, what), full(), ints(0, 1, 2), ints(9 * 120, 16, 64));
    }

    private static void ifFiredWrong() {
        StampedSlots x = filled(1, 1);
        outOf("events", ARGUMENT, x, (s, events) -> s.ifFired(events, 0), -1, 0, 10, LEAST, MOST);
        outOf("what", ARGUMENT, x, (s, what) -> s.ifFired(1, what), -1, 3, LEAST, MOST);
        thrown(x, "both", ARGUMENT, () -> x.ifFired(0, 3));
    }

    private static void roomWithoutGrowth() {
        Use room = (s, size) -> s.room(size, false);
        answers("empty", room, new StampedSlots(), ints(1, 2, 3, 4), ints(16, 8, 5, 4));
        answers("16 without a free cell", room, filled(4, 4), ints(1, 2, 3, 4), ints(0, 0, 0, 0));
        answers("one cell", room, filled(15, 1), ints(1, 2, 3, 4), ints(1, 0, 0, 0));
        answers("32", room, filled(17, 1), ints(1, 2, 3, 4), ints(15, 7, 5, 3));
        answers("64", room, filled(33, 1), ints(1, 2, 3, 4), ints(31, 15, 10, 7));
        answers("full", room, full(), ints(1, 2, 3, 4), ints(0, 0, 0, 0));
        answers("holes of one", room, fullOfHoles(), ints(1, 2, 3, 4), ints(16, 0, 0, 0));
        StampedSlots x = filled(16, 1);
        for (int cell : ints(1, 2, 3, 5, 6, 7, 8, 9, 14, 15)) {
            x.remove(1000 * cell);
        }
        answers("gaps of 3, 5 and 2", room, x, ints(1, 2, 3, 4), ints(10, 4, 2, 1));
    }

    private static void roomOfEachSize() {
        StampedSlots x = filled(4, 1);
        answers("room", (s, size) -> s.room(size, false), x, ints(1, 2, 3, 4), ints(12, 6, 4, 3));
        answers("room together", (s, size) -> s.room(size, true), x, ints(1, 2, 3, 4), ints(12, 6, 4, 3));
        outOf("room", ARGUMENT, x, (s, size) -> s.room(size, false), 0, 5);
    }

    /** As many are told as can be put until the store would grow; together() is called, or is not. */
    private static void roomByPutting() {
        int[] gaps = {10, 4, 2, 1};
        int[] moved = {10, 5, 3, 2};
        for (int size = 1; size <= 4; size++) {
            for (int isTogether = 0; isTogether <= 1; isTogether++) {
                StampedSlots x = filled(16, 1);
                for (int cell : ints(1, 2, 3, 5, 6, 7, 8, 9, 14, 15)) {
                    x.remove(1000 * cell);
                }
                int want = isTogether == 1 ? moved[size - 1] : gaps[size - 1];
                due("room of size " + size, want, x.room(size, isTogether == 1));
                if (isTogether == 1) {
                    x.together();
                }
                for (int i = 0; i < want; i++) {
                    x.put(0, size, 0);
                }
                due("put so many of size " + size, 16, x.count(2));
                due("no room for one more", 0, x.room(size, false));
                x.put(0, size, 0);
                due("one more grows the store", 32, x.count(2));
            }
        }
    }

    private static void roomTogether() {
        Use room = (s, size) -> s.room(size, true);
        answers("empty", room, new StampedSlots(), ints(1, 2, 3, 4), ints(16, 8, 5, 4));
        answers("full", room, full(), ints(1, 2, 3, 4), ints(0, 0, 0, 0));
        StampedSlots x = fullOfHoles();
        answers("holes of one", room, x, ints(1, 2, 3, 4), ints(16, 8, 5, 4));
        due("nothing is moved", 4000, x.at(1));
        x.together();
        answers("the same when they are moved", (s, size) -> s.room(size, false), x, ints(1, 2, 3, 4),
                ints(16, 8, 5, 4));
        StampedSlots y = filled(16, 1);
        y.remove(3000);
        y.remove(7000);
        y.remove(15000);
        answers("three holes", room, y, ints(1, 2, 3, 4), ints(3, 1, 1, 0));
    }

    private static void roomSize() {
        StampedSlots x = filled(1, 1);
        outOf("room", ARGUMENT, x, (s, size) -> s.room(size, false), -1, 0, 5, LEAST, MOST);
        outOf("room together", ARGUMENT, x, (s, size) -> s.room(size, true), -1, 0, 5, LEAST, MOST);
    }

    private static void full(double want, StampedSlots x) {
        due("fullness", Double.doubleToLongBits(want), Double.doubleToLongBits(x.fullness()));
    }

    private static void fullness() {
        full(0.0, new StampedSlots());
        full(1.0, filled(4, 4));
        full(1.0, full());
        StampedSlots x = new StampedSlots();
        for (int i = 1; i <= 64; i++) {
            x.put(0, 1, 0);
            full((double) i / (i <= 16 ? 16 : i <= 32 ? 32 : 64), x);
        }
        for (int i = 63; i >= 0; i--) {
            x.remove(1000 * i);
            full((double) i / 64, x);
        }
    }

    // The digest is told by the words of the promise, for states that are known without looks.
    private static long hash;

    private static void add(long... values) {
        for (long value : values) {
            hash = 31 * hash + value;
        }
    }

    private static void addWalkersAhead(int things) {
        for (int walker = 0; walker < 4; walker++) {
            add(0, -1, things);
        }
    }

    private static void addNewStore() {
        hash = 3251;
        add(0, 0, 16, 16, 0, 0, 0, 0, 0, 0);
        for (int cell = 0; cell < 16; cell++) {
            add(0, -1);
        }
        addWalkersAhead(0);
        add(0, 0, 0, 0);
        add(16, 0);
        add(0, 0, 16);
        add(16, 16, 8, 8, 5, 5, 4, 4);
        add(Double.doubleToLongBits(0.0));
    }

    private static void digestOfNew() {
        addNewStore();
        add(0);
        due("digest", hash, new StampedSlots().digest());
    }

    private static void digestOfFull() {
        hash = 3251;
        add(64, 0, 64, 0, 64 * 63 / 2, 0, 64, 0, 0, 6);
        for (int i = 0; i < 64; i++) {
            add(1000 * i, i, 1, 0, 0, i, 0);
        }
        for (int i = 0; i < 64; i++) {
            add(0, 1000 * i);
        }
        addWalkersAhead(64);
        add(-1, -1, -1, -1);
        add(0, -1);
        add(64 * 63, 64, 64);
        add(0, 0, 0, 0, 0, 0, 0, 0);
        add(Double.doubleToLongBits(1.0));
        add(0);
        due("digest", hash, filled(64, 1).digest());
    }

    private static void digestByLooks() {
        StampedSlots x = with("11*1!,22*2+,33*1,44*3,55*4");
        x.goOn(0);
        x.goOn(1);
        x.goOn(1);
        x.goOn(2);
        x.goOn(2);
        x.goOn(2);
        x.fire();
        x.remove(3000);
        x.together();
        x.putBehind(2000, 7, 1, 1);
        x.goOn(2);
        x.remove(x.at(0));
        due("tombstones", 2, x.count(1));
        long got = x.digest();
        hash = 3251;
        for (int what = 0; what <= 9; what++) {
            add(x.count(what));
        }
        int things = x.count(0);
        for (int place = 0; place < things; place++) {
            int handle = x.at(place);
            add(handle);
            for (int what = 0; what <= 5; what++) {
                add(x.thing(handle, what));
            }
        }
        int cells = x.count(2);
        for (int cell = 0; cell < cells; cell++) {
            add(x.cell(cell, 0), x.cell(cell, 1));
        }
        for (int walker = 0; walker < 4; walker++) {
            add(x.walker(walker, 0), x.walker(walker, 1), x.walker(walker, 2));
        }
        add(x.begins(1), x.begins(2), x.begins(3), x.begins(4));
        add(x.gap(0), x.gap(1));
        add(x.ifFired(2, 0), x.ifFired(2, 1), x.ifFired(2, 2));
        for (int size = 1; size <= 4; size++) {
            add(x.room(size, false), x.room(size, true));
        }
        add(Double.doubleToLongBits(x.fullness()), 0);
        due("digest", hash, got);
    }

    private static void digestOfShares() {
        StampedSlots x = new StampedSlots();
        for (int i = 1; i <= 64; i++) {
            x.put(0, 1, 0);
            digestOfFilled(x, i, i <= 16 ? 16 : i <= 32 ? 32 : 64, 0);
        }
        // Down to 1 of 64, the least share but 0; the cells stay, and those left have the stamp 1.
        for (int i = 63; i >= 0; i--) {
            x.remove(1000 * i);
            digestOfFilled(x, i, 64, 64 - i);
        }
    }

    private static void digestOfFilled(StampedSlots x, int things, int cells, int removed) {
        int free = cells - things;
        int begins = things < 64 ? things : -1;
        hash = 3251;
        add(things, 0, cells, free, 0, 0, things + removed, removed, 0, Math.min(things + removed, 6));
        for (int i = 0; i < things; i++) {
            add(1000 * i, 0, 1, 0, 0, i, 0);
        }
        for (int i = 0; i < cells; i++) {
            add(i < things || removed == 0 ? 0 : 1, i < things ? 1000 * i : -1);
        }
        addWalkersAhead(things);
        for (int size = 1; size <= 4; size++) {
            add(begins + size <= 64 ? begins : -1);
        }
        add(free, free > 0 ? things : -1);
        add(0, things, cells);
        for (int size = 1; size <= 4; size++) {
            add(free / size, free / size);
        }
        add(Double.doubleToLongBits((double) things / cells));
        add(0);
        due("digest of " + things, hash, x.digest());
    }

    private static void digestOfBuffer() {
        StampedSlots x = new StampedSlots();
        for (int length = 1; length <= 60; length++) {
            x.append(length % 2 == 0 ? 33 : 126);
            addNewStore();
            add(length);
            for (int i = 1; i <= length; i++) {
                add(i % 2 == 0 ? 33 : 126);
            }
            due("digest with " + length, hash, x.digest());
        }
        x.clearBuffer();
        addNewStore();
        add(0);
        due("digest with the cleared buffer", hash, x.digest());
    }
}
