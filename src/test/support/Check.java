/** What BoundaryTest and RangeTest share: sentences of the document, checks, objects to begin with. */
abstract class Check {
    static final Class<?> INDEX = IndexOutOfBoundsException.class;
    static final Class<?> ARGUMENT = IllegalArgumentException.class;
    static final Class<?> STATE = IllegalStateException.class;
    static final int LEAST = Integer.MIN_VALUE;
    static final int MOST = Integer.MAX_VALUE;

    private static int wrong = 0;
    private static int sentences = 0;
    private static String told = "";

    interface Call {
        long answer();
    }

    /** Runs the test of one sentence; one that fails does not hide the next. */
    static void sentence(String where, String words, Runnable test) {
        told = where + ", \"" + words + "\"";
        sentences++;
        try {
            test.run();
        } catch (RuntimeException e) {
            fail("the test ended with " + e);
        }
    }

    static void fail(String what) {
        wrong++;
        System.out.println(told + ": " + what);
    }

    static void due(String what, long want, long got) {
        if (got != want) {
            fail(what + " answered " + got + ", due is " + want);
        }
    }

    /** The call throws exactly this, and changes nothing that digest() sees. */
    static void thrown(StampedSlots x, String what, Class<?> want, Call call) {
        long before = x.digest();
        try {
            fail(what + " answered " + call.answer() + ", due is " + want.getSimpleName());
        } catch (RuntimeException e) {
            if (e.getClass() != want) {
                fail(what + " threw " + e.getClass().getName() + ", due is " + want.getSimpleName());
            }
        }
        due("the digest behind " + what, before, x.digest());
    }

    /** The things of the row, by their handles. */
    static void row(StampedSlots x, int... handles) {
        due("things", handles.length, x.count(0));
        for (int place = 0; place < handles.length; place++) {
            due("at(" + place + ")", handles[place], x.at(place));
        }
    }

    static void counts(StampedSlots x, int... want) {
        for (int what = 0; what < want.length; what++) {
            due("count(" + what + ")", want[what], x.count(what));
        }
    }

    static void walker(StampedSlots x, int walker, int stand, int handle, int behind) {
        due("where walker " + walker + " stands", stand, x.walker(walker, 0));
        due("what walker " + walker + " stands on", handle, x.walker(walker, 1));
        due("things behind walker " + walker, behind, x.walker(walker, 2));
    }

    static void type(StampedSlots x, String text) {
        x.clearBuffer();
        for (int i = 0; i < text.length(); i++) {
            x.append(text.charAt(i));
        }
    }

    static StampedSlots with(String text) {
        StampedSlots x = new StampedSlots();
        type(x, text);
        x.putAll();
        return x;
    }

    /** Things of one size, plain, with the values from 0 on, one behind the other. */
    static StampedSlots filled(int many, int size) {
        StampedSlots x = new StampedSlots();
        for (int i = 0; i < many; i++) {
            x.put(i, size, 0);
        }
        return x;
    }

    /** 64 cells, none free. */
    static StampedSlots full() {
        return filled(16, 4);
    }

    /** 64 cells; the sixteen free ones are 3, 7, 11 and so on, each alone. */
    static StampedSlots fullOfHoles() {
        StampedSlots x = new StampedSlots();
        for (int i = 0; i < 16; i++) {
            x.put(i, 3, 0);
            x.put(100 + i, 1, 0);
        }
        for (int i = 0; i < 16; i++) {
            x.remove(4000 * i + 3000);
        }
        return x;
    }

    static String repeated(String part, int many) {
        StringBuilder text = new StringBuilder();
        for (int i = 0; i < many; i++) {
            text.append(part);
        }
        return text.toString();
    }

    static void finish(String name) {
        System.out.println(wrong == 0 ? name + ": all " + sentences + " sentences hold"
                : name + ": " + wrong + " answers are not as due");
        if (wrong != 0) {
            System.exit(1);
        }
    }
}
