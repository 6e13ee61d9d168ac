import java.util.ArrayList;
import java.util.IdentityHashMap;
import java.util.List;
import java.util.Map;

/**
 * Runs of up to 512 calls, chosen by a plain row of numbers that is always the same, beside a second
 * model that is written from the document in another way: things as objects, walkers that point to
 * them, deep copies, and looks by doing what would be on a copy.
 */
public final class ModelTest {
    private static final int RUNS = 300;

    private static final class Entry {
        int begin;
        int value;
        int size;
        int kind;
        int fired;
        boolean isGone;
    }

    private static final class Model {
        static final Entry AHEAD = new Entry();
        static final Entry BEHIND = new Entry();

        int cells = 16;
        int[] stamps = new int[64];
        List<Entry> row = new ArrayList<>();
        Entry[] walkers = {AHEAD, AHEAD, AHEAD, AHEAD};
        int events;
        int puts;
        int removals;
        int moves;

        Model copy() {
            Map<Entry, Entry> same = new IdentityHashMap<>();
            same.put(AHEAD, AHEAD);
            same.put(BEHIND, BEHIND);
            Model m = new Model();
            m.cells = cells;
            m.stamps = stamps.clone();
            for (Entry e : row) {
                Entry f = new Entry();
                f.begin = e.begin;
                f.value = e.value;
                f.size = e.size;
                f.kind = e.kind;
                f.fired = e.fired;
                f.isGone = e.isGone;
                same.put(e, f);
                m.row.add(f);
            }
            for (int w = 0; w < 4; w++) {
                m.walkers[w] = same.get(walkers[w]);
            }
            m.events = events;
            m.puts = puts;
            m.removals = removals;
            m.moves = moves;
            return m;
        }

        List<Entry> things() {
            List<Entry> all = new ArrayList<>();
            for (Entry e : row) {
                if (!e.isGone) {
                    all.add(e);
                }
            }
            return all;
        }

        Entry owner(int cell) {
            for (Entry e : things()) {
                if (e.begin <= cell && cell < e.begin + e.size) {
                    return e;
                }
            }
            return null;
        }

        int handle(Entry e) {
            return e == null || e.isGone || e == AHEAD || e == BEHIND ? -1 : e.begin * 1000 + stamps[e.begin];
        }

        int refusal(int handle) {
            if (handle < 0 || handle / 1000 >= cells) {
                return 1;
            }
            if (stamps[handle / 1000] != handle % 1000) {
                return 2;
            }
            Entry e = owner(handle / 1000);
            return e == null || e.begin != handle / 1000 ? 3 : 0;
        }

        Entry named(int handle) {
            return refusal(handle) == 0 ? owner(handle / 1000) : null;
        }

        int fit(int size) {
            for (int b = 0; b + size <= cells; b++) {
                boolean isFree = true;
                for (int c = b; c < b + size; c++) {
                    isFree = isFree && owner(c) == null;
                }
                if (isFree) {
                    return b;
                }
            }
            return -1;
        }

        /** Grows this object; -1 if there is no room. */
        int fitGrowing(int size) {
            int b = fit(size);
            while (b < 0 && cells < 64) {
                cells *= 2;
                b = fit(size);
            }
            return b;
        }

        boolean add(int index, int value, int size, int kind) {
            int b = fitGrowing(size);
            if (b < 0) {
                return false;
            }
            Entry e = new Entry();
            e.begin = b;
            e.value = value;
            e.size = size;
            e.kind = kind;
            row.add(index, e);
            puts++;
            return true;
        }

        void drop(Entry e) {
            e.isGone = true;
            stamps[e.begin] = (stamps[e.begin] + 1) % 1000;
            removals++;
            sweep();
        }

        void sweep() {
            List<Entry> left = new ArrayList<>();
            for (Entry e : row) {
                if (!e.isGone || standing(e) > 0) {
                    left.add(e);
                }
            }
            row = left;
        }

        int standing(Entry e) {
            int n = 0;
            for (Entry w : walkers) {
                n += w == e ? 1 : 0;
            }
            return n;
        }

        int stand(int w) {
            Entry e = walkers[w];
            return e == AHEAD ? 0 : e == BEHIND ? 3 : e.isGone ? 2 : 1;
        }

        List<Entry> behind(int w) {
            List<Entry> all = new ArrayList<>();
            boolean isBehind = walkers[w] == AHEAD;
            for (Entry e : row) {
                if (isBehind && !e.isGone) {
                    all.add(e);
                }
                isBehind = isBehind || e == walkers[w];
            }
            return all;
        }

        int fire() {
            int sum = 0;
            for (Entry e : things()) {
                sum += e.value;
                e.fired++;
                if (e.kind == 1) {
                    drop(e);
                } else if (e.kind == 2) {
                    add(row.size(), e.value, e.size, 0);
                }
            }
            events++;
            return sum;
        }

        int together() {
            List<Entry> all = things();
            all.sort((a, b) -> a.begin - b.begin);
            int next = 0;
            int moved = 0;
            for (Entry e : all) {
                if (e.begin != next) {
                    stamps[e.begin] = (stamps[e.begin] + 1) % 1000;
                    e.begin = next;
                    moved++;
                }
                next += e.size;
            }
            moves += moved;
            return moved;
        }

        int free() {
            int n = 0;
            for (int c = 0; c < cells; c++) {
                n += owner(c) == null ? 1 : 0;
            }
            return n;
        }

        int values() {
            int n = 0;
            for (Entry e : things()) {
                n += e.value;
            }
            return n;
        }

        int gap(int what) {
            int best = 0;
            int first = -1;
            for (int b = 0; b < cells; b++) {
                int n = 0;
                while (b + n < cells && owner(b + n) == null) {
                    n++;
                }
                if (n > best) {
                    best = n;
                    first = b;
                }
            }
            return what == 0 ? best : first;
        }

        int room(int size, boolean isTogether) {
            Model m = copy();
            if (isTogether) {
                m.together();
            }
            int n = 0;
            while (m.fit(size) >= 0) {
                m.add(0, 0, size, 0);
                n++;
            }
            return n;
        }

        int ifFired(int events, int what) {
            Model m = copy();
            int sum = 0;
            for (int i = 0; i < events; i++) {
                sum += m.fire();
            }
            return what == 0 ? sum : what == 1 ? m.things().size() : m.cells;
        }
    }

    private static final class World {
        Model now = new Model();
        List<Model> saved = new ArrayList<>();
        String buffer = "";

        void save() {
            saved.add(now.copy());
            if (saved.size() > 6) {
                saved.remove(0);
            }
        }

        int count(int what) {
            switch (what) {
                case 0: return now.things().size();
                case 1: return now.row.size() - now.things().size();
                case 2: return now.cells;
                case 3: return now.free();
                case 4: return now.values();
                case 5: return now.events;
                case 6: return now.puts;
                case 7: return now.removals;
                case 8: return now.moves;
                default: return saved.size();
            }
        }

        int thing(Entry e, int what) {
            switch (what) {
                case 0: return e.value;
                case 1: return e.size;
                case 2: return e.kind;
                case 3: return e.fired;
                case 4: return now.things().indexOf(e);
                default: return now.standing(e);
            }
        }

        int walker(int w, int what) {
            return what == 0 ? now.stand(w) : what == 1 ? now.handle(now.walkers[w]) : now.behind(w).size();
        }

        double fullness() {
            return (double) (now.cells - now.free()) / now.cells;
        }

        static final String PART = "(0|[1-9][0-9]{0,2})\\*[1-4][!+]?";

        boolean isComplete() {
            return buffer.matches(PART + "(," + PART + ")*");
        }

        /** Whether some things as a text begin with this: tried by all endings that can be needed. */
        static boolean isBeginning(String text) {
            for (String end : new String[] {"", "1*1", "*1", "1"}) {
                if ((text + end).matches(PART + "(," + PART + ")*")) {
                    return true;
                }
            }
            return false;
        }

        int firstError() {
            for (int i = 0; i < buffer.length(); i++) {
                if (!isBeginning(buffer.substring(0, i + 1))) {
                    return i;
                }
            }
            return buffer.length();
        }

        int putAll() {
            int n = 0;
            for (String part : buffer.split(",")) {
                int star = part.indexOf('*');
                int kind = part.endsWith("!") ? 1 : part.endsWith("+") ? 2 : 0;
                int value = Integer.parseInt(part.substring(0, star));
                n += now.add(now.row.size(), value, part.charAt(star + 1) - '0', kind) ? 1 : 0;
            }
            buffer = "";
            return n;
        }

        long hash;

        void mix(long v) {
            hash = 31 * hash + v;
        }

        long digest() {
            hash = 3251;
            for (int i = 0; i <= 9; i++) {
                mix(count(i));
            }
            for (Entry e : now.things()) {
                mix(now.handle(e));
                for (int i = 0; i <= 5; i++) {
                    mix(thing(e, i));
                }
            }
            for (int c = 0; c < now.cells; c++) {
                mix(now.stamps[c]);
                mix(now.handle(now.owner(c)));
            }
            for (int w = 0; w < 4; w++) {
                for (int i = 0; i <= 2; i++) {
                    mix(walker(w, i));
                }
            }
            for (int size = 1; size <= 4; size++) {
                mix(now.copy().fitGrowing(size));
            }
            mix(now.gap(0));
            mix(now.gap(1));
            for (int i = 0; i <= 2; i++) {
                mix(now.ifFired(2, i));
            }
            for (int size = 1; size <= 4; size++) {
                mix(now.room(size, false));
                mix(now.room(size, true));
            }
            mix(Double.doubleToLongBits(fullness()));
            mix(buffer.length());
            for (int i = 0; i < buffer.length(); i++) {
                mix(buffer.charAt(i));
            }
            return hash;
        }
    }

    // What a call that throws answers here; no call of the face answers so.
    private static final long INDEX = Long.MIN_VALUE + 1;
    private static final long ARGUMENT = Long.MIN_VALUE + 2;
    private static final long STATE = Long.MIN_VALUE + 3;
    private static final long OTHER = Long.MIN_VALUE + 4;

    private static long seed = 20;

    private static int below(int bound) {
        seed = seed * 6364136223846793005L + 1442695040888963407L;
        return (int) ((seed >>> 33) % bound);
    }

    private static boolean isThing(int value, int size, int kind) {
        return value >= 0 && value <= 999 && size >= 1 && size <= 4 && kind >= 0 && kind <= 2;
    }

    /** The answer that the model gives to call number 'call' with these arguments. */
    private static long due(World w, int call, int a, int b, int c, int d) {
        Model m = w.now;
        switch (call) {
            case 0:
                if (!isThing(a, b, c)) { return ARGUMENT; }
                if (m.copy().fitGrowing(b) < 0) { return STATE; }
                w.save();
                m.add(m.row.size(), a, b, c);
                return m.handle(m.row.get(m.row.size() - 1));
            case 1: {
                Entry e = m.named(a);
                if (e == null) { return INDEX; }
                if (!isThing(b, c, d)) { return ARGUMENT; }
                if (m.copy().fitGrowing(c) < 0) { return STATE; }
                w.save();
                int index = m.row.indexOf(e) + 1;
                m.add(index, b, c, d);
                return m.handle(m.row.get(index));
            }
            case 2: {
                Entry e = m.named(a);
                if (e == null) { return INDEX; }
                w.save();
                m.drop(e);
                return e.value;
            }
            case 3: {
                Entry e = m.named(a);
                if (e == null) { return INDEX; }
                if (b < 0 || b > 999) { return ARGUMENT; }
                w.save();
                int old = e.value;
                e.value = b;
                return old;
            }
            case 4: {
                if (a < 0 || a > 3) { return INDEX; }
                w.save();
                int stood = m.stand(a);
                m.walkers[a] = Model.AHEAD;
                m.sweep();
                return stood;
            }
            case 5: {
                if (a < 0 || a > 3) { return INDEX; }
                w.save();
                List<Entry> behind = m.behind(a);
                m.walkers[a] = behind.isEmpty() ? Model.BEHIND : behind.get(0);
                m.sweep();
                return m.handle(m.walkers[a]);
            }
            case 6: {
                if (a < 0 || a > 3) { return INDEX; }
                if (m.stand(a) != 1) { return STATE; }
                w.save();
                m.drop(m.walkers[a]);
                return m.walkers[a].value;
            }
            case 7: w.save(); return m.fire();
            case 8: w.save(); return m.together();
            default: return dueOfTextsAndLooks(w, call, a, b);
        }
    }

    private static long dueOfTextsAndLooks(World w, int call, int a, int b) {
        Model m = w.now;
        switch (call) {
            case 9:
                if (a < 33 || a > 126) { return ARGUMENT; }
                if (w.buffer.length() == 60) { return STATE; }
                w.buffer += (char) a;
                return w.buffer.length();
            case 10: {
                int n = w.buffer.length();
                w.buffer = "";
                return n;
            }
            case 11: return w.firstError();
            case 12:
                if (!w.isComplete()) { return ARGUMENT; }
                w.save();
                return w.putAll();
            case 13:
                if (w.saved.isEmpty()) { return STATE; }
                w.now = w.saved.remove(w.saved.size() - 1);
                return w.saved.size();
            case 14: return m.refusal(a);
            case 15:
                if (m.named(a) == null) { return INDEX; }
                return b < 0 || b > 5 ? ARGUMENT : w.thing(m.named(a), b);
            case 16:
                if (a < 0) { return ARGUMENT; }
                return a < m.things().size() ? m.handle(m.things().get(a)) : -1;
            case 17:
                if (a < 0 || a >= m.cells) { return INDEX; }
                return b < 0 || b > 1 ? ARGUMENT : b == 0 ? m.stamps[a] : m.handle(m.owner(a));
            case 18:
                if (a < 0 || a > 3) { return INDEX; }
                return b < 0 || b > 2 ? ARGUMENT : w.walker(a, b);
            case 19: return a < 0 || a > 9 ? ARGUMENT : w.count(a);
            case 20: return a < 1 || a > 4 ? ARGUMENT : m.copy().fitGrowing(a);
            case 21: return a < 0 || a > 1 ? ARGUMENT : m.gap(a);
            case 22: return a < 1 || a > 9 || b < 0 || b > 2 ? ARGUMENT : m.ifFired(a, b);
            case 23: return a < 1 || a > 4 ? ARGUMENT : m.room(a, b % 2 == 0);
            case 24: return Double.doubleToLongBits(w.fullness());
            default: return w.digest();
        }
    }

    private static long got(StampedSlots x, int call, int a, int b, int c, int d) {
        try {
            return answer(x, call, a, b, c, d);
        } catch (RuntimeException e) {
            if (e.getClass() == IndexOutOfBoundsException.class) {
                return INDEX;
            }
            if (e.getClass() == IllegalArgumentException.class) {
                return ARGUMENT;
            }
            return e.getClass() == IllegalStateException.class ? STATE : OTHER;
        }
    }

    private static long answer(StampedSlots x, int call, int a, int b, int c, int d) {
        switch (call) {
            case 0: return x.put(a, b, c);
            case 1: return x.putBehind(a, b, c, d);
            case 2: return x.remove(a);
            case 3: return x.change(a, b);
            case 4: return x.restart(a);
            case 5: return x.goOn(a);
            case 6: return x.take(a);
            case 7: return x.fire();
            case 8: return x.together();
            case 9: return x.append(a);
            case 10: return x.clearBuffer();
            case 11: return x.firstError();
            case 12: return x.putAll();
            case 13: return x.undo();
            case 14: return x.refusal(a);
            case 15: return x.thing(a, b);
            case 16: return x.at(a);
            case 17: return x.cell(a, b);
            case 18: return x.walker(a, b);
            case 19: return x.count(a);
            case 20: return x.begins(a);
            case 21: return x.gap(a);
            case 22: return x.ifFired(a, b);
            case 23: return x.room(a, b % 2 == 0);
            case 24: return Double.doubleToLongBits(x.fullness());
            default: return x.digest();
        }
    }

    private static final int[] EXTREMES = {Integer.MIN_VALUE, Integer.MAX_VALUE, -1, -1000, 64000, 63999, 999, 1000, 4, 5};

    private static int wild() {
        return EXTREMES[below(EXTREMES.length)];
    }

    private static int handleFor(World w) {
        int kind = below(20);
        List<Entry> all = w.now.things();
        if (kind < 16 && !all.isEmpty()) {
            return w.now.handle(all.get(below(all.size())));
        }
        if (kind < 19) {
            int cell = below(w.now.cells + 1);
            return cell * 1000 + (cell < w.now.cells ? Math.max(0, w.now.stamps[cell] - below(2)) : 0);
        }
        return wild();
    }

    /** A number from 'least' to 'most', now and then one beside them or an extreme one. */
    private static int mostly(int least, int most) {
        int kind = below(40);
        if (kind == 0) {
            return wild();
        }
        return kind == 1 ? least - 1 : kind == 2 ? most + 1 : least + below(most - least + 1);
    }

    /** The next character: mostly one that goes on with the text, for calls of putAll that put. */
    private static int codeFor(World w) {
        String signs = "0123456789*!+,";
        if (below(30) == 0) {
            return mostly(33, 126);
        }
        int start = below(signs.length());
        for (int i = 0; i < signs.length(); i++) {
            char sign = signs.charAt((start + i) % signs.length());
            if (World.isBeginning(w.buffer + sign)) {
                return sign;
            }
        }
        return signs.charAt(start);
    }

    private static int[] argumentsFor(World w, int call) {
        switch (call) {
            case 0: return new int[] {mostly(0, 999), mostly(1, 4), mostly(0, 2), 0};
            case 1: return new int[] {handleFor(w), mostly(0, 999), mostly(1, 4), mostly(0, 2)};
            case 2: case 14: return new int[] {handleFor(w), 0, 0, 0};
            case 3: return new int[] {handleFor(w), mostly(0, 999), 0, 0};
            case 4: case 5: case 6: return new int[] {mostly(0, 3), 0, 0, 0};
            case 9: return new int[] {codeFor(w), 0, 0, 0};
            case 15: return new int[] {handleFor(w), mostly(0, 5), 0, 0};
            case 16: return new int[] {mostly(0, w.now.row.size() + 1), 0, 0, 0};
            case 17: return new int[] {mostly(0, w.now.cells), mostly(0, 1), 0, 0};
            case 18: return new int[] {mostly(0, 3), mostly(0, 2), 0, 0};
            case 19: return new int[] {mostly(0, 9), 0, 0, 0};
            case 20: return new int[] {mostly(1, 4), 0, 0, 0};
            case 21: return new int[] {mostly(0, 1), 0, 0, 0};
            case 22: return new int[] {mostly(1, 9), mostly(0, 2), 0, 0};
            case 23: return new int[] {mostly(1, 4), below(2), 0, 0};
            default: return new int[] {0, 0, 0, 0};
        }
    }

    // How often each of the calls 0 to 25 is chosen, in runs of four tempers; the last one is
    // a crowd: many things of one cell, so that the row comes to its longest.
    private static final int[][] WEIGHTS = {
        {8, 6, 8, 3, 3, 12, 6, 3, 2, 20, 1, 2, 4, 3, 2, 3, 2, 2, 3, 2, 2, 2, 2, 2, 1, 4},
        {20, 8, 4, 1, 1, 10, 3, 3, 1, 20, 1, 1, 5, 1, 1, 2, 1, 1, 2, 1, 1, 1, 1, 1, 1, 4},
        {6, 6, 12, 1, 3, 25, 12, 2, 3, 4, 1, 1, 1, 6, 1, 1, 1, 1, 4, 1, 1, 1, 1, 1, 1, 8},
        {40, 12, 1, 1, 1, 40, 6, 3, 1, 0, 0, 0, 0, 1, 1, 1, 1, 1, 2, 1, 1, 1, 1, 1, 1, 1},
    };
    private static final int CROWD = 3;

    private static int chosen(int[] weights) {
        int all = 0;
        for (int weight : weights) {
            all += weight;
        }
        int left = below(all);
        int call = 0;
        while (left >= weights[call]) {
            left -= weights[call];
            call++;
        }
        return call;
    }

    private static int wrong = 0;
    private static int longest = 0;
    private static final long[] seen = new long[26];
    private static final long[] thrown = new long[26];

    private static void run(int number) {
        StampedSlots x = new StampedSlots();
        World w = new World();
        for (int i = 0; i < 512; i++) {
            int call = i == 511 ? 25 : chosen(WEIGHTS[number % WEIGHTS.length]);
            int[] a = argumentsFor(w, call);
            if (number % WEIGHTS.length == CROWD && call <= 1) {
                a[call + 1] = 1;
            }
            longest = Math.max(longest, w.now.row.size());
            long want = due(w, call, a[0], a[1], a[2], a[3]);
            long got = got(x, call, a[0], a[1], a[2], a[3]);
            seen[call]++;
            if (want <= OTHER) {
                thrown[call]++;
            }
            if (got != want) {
                wrong++;
                System.out.println("run " + number + ", call " + i + ": number " + call + " of " + a[0] + ", " + a[1]
                        + ", " + a[2] + ", " + a[3] + " answered " + got + ", due is " + want);
                return;
            }
        }
    }

    public static void main(String[] args) {
        for (int number = 0; number < RUNS && wrong < 5; number++) {
            run(number);
        }
        for (int call = 0; call < 26; call++) {
            if (seen[call] - thrown[call] < 100) {
                wrong++;
                System.out.println("call " + call + " was answered too seldom to tell anything");
            }
        }
        if (longest < 66) {
            wrong++;
            System.out.println("the longest row had " + longest + " entries, too few to tell anything");
        }
        System.out.println(wrong == 0 ? "ModelTest: " + RUNS + " runs are as the model" : wrong + " are wrong");
        if (wrong != 0) {
            System.exit(1);
        }
    }
}
