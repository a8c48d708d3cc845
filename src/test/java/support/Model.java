import java.util.ArrayDeque;
import java.util.ArrayList;
import java.util.Arrays;
import java.util.Deque;
import java.util.HashSet;
import java.util.List;
import java.util.Set;

/** The document told a second time, with the Java library and by trying all, to hold the class against. */
final class Model {
    static final int NONE = -1000000, BAD = -1000001, STATE = -1000002, FULL = -1000003;

    /** A refusal or a finding, as the answer that it is. */
    static final class Refused extends RuntimeException {
        final int answer;

        Refused(int answer) {
            super(null, null, false, false);
            this.answer = answer;
        }
    }

    static final class Row {
        final int lane;
        final int[] items;

        Row(int lane, int n) {
            this.lane = lane;
            this.items = new int[n];
        }
    }

    /** The kinds as Java itself has them: bodies lent by an interface, told anew by classes. */
    interface Bidder {
        Man man();

        List<Integer> bodies();

        default int size() {
            bodies().add(10);
            return man().purse;
        }

        default int mark() {
            bodies().add(20);
            return man().number;
        }
    }

    static class Buyer implements Bidder {
        final Man man;
        final List<Integer> bodies;

        Buyer(Man man, List<Integer> bodies) {
            this.man = man;
            this.bodies = bodies;
        }

        public Man man() {
            return man;
        }

        public List<Integer> bodies() {
            return bodies;
        }

        public int size() {
            bodies.add(11);
            return Bidder.super.size() + mark();
        }

        public int mark() {
            bodies.add(21);
            return Bidder.super.mark() + man.home;
        }
    }

    static final class Abbey extends Buyer {
        Abbey(Man man, List<Integer> bodies) {
            super(man, bodies);
        }

        public int size() {
            bodies.add(12);
            return 0 - super.size();
        }

        public int mark() {
            bodies.add(24);
            return super.mark() * 2;
        }
    }

    static final class Sleeper extends Buyer {
        Sleeper(Man man, List<Integer> bodies) {
            super(man, bodies);
        }

        public int mark() {
            bodies.add(22);
            return super.mark() - 1000;
        }
    }

    static class Goat implements Bidder {
        final Man man;
        final List<Integer> bodies;

        Goat(Man man, List<Integer> bodies) {
            this.man = man;
            this.bodies = bodies;
        }

        public Man man() {
            return man;
        }

        public List<Integer> bodies() {
            return bodies;
        }

        public int size() {
            bodies.add(13);
            return Bidder.super.size() - 100;
        }

        public int mark() {
            bodies.add(23);
            return Bidder.super.mark() - size();
        }
    }

    static final class Seal extends Goat {
        Seal(Man man, List<Integer> bodies) {
            super(man, bodies);
        }

        public int size() {
            bodies.add(14);
            return super.size() * 2;
        }
    }

    static final class Man {
        char sort;
        int number;
        int purse;
        int home;

        Man again() {
            Man m = new Man();
            m.sort = sort;
            m.number = number;
            m.purse = purse;
            m.home = home;
            return m;
        }

        Bidder asKind(List<Integer> bodies) {
            switch (sort) {
                case 'b': return new Buyer(this, bodies);
                case 'a': return new Abbey(this, bodies);
                case 'z': return new Sleeper(this, bodies);
                case 'g': return new Goat(this, bodies);
                default: return new Seal(this, bodies);
            }
        }
    }

    static final class World {
        int low;
        int high;
        int price;
        int hour;
        int[] heights = new int[15];
        Man[] holders = new Man[15];
        List<Man> men = new ArrayList<>();

        World again() {
            World w = new World();
            w.low = low;
            w.high = high;
            w.price = price;
            w.hour = hour;
            w.heights = heights.clone();
            for (Man m : men) {
                w.men.add(m.again());
            }
            for (int c = 0; c < 15; c++) {
                w.holders[c] = holders[c] == null ? null : w.men.get(holders[c].number);
            }
            return w;
        }

        int level(int behind) {
            int t = (hour + behind) % 12;
            return low + (t > 6 ? 12 - t : t) * (high - low) / 6;
        }

        boolean dry(int cell, int behind) {
            return heights[cell] > level(behind);
        }

        int dryBits(int behind) {
            int bits = 0;
            for (int c = 0; c < 15; c++) {
                bits += dry(c, behind) ? 1 << c : 0;
            }
            return bits;
        }

        int cost(char sort, int cell) {
            int full = price * heights[cell];
            return sort == 'b' ? full : sort == 'a' ? full / 2 : sort == 'z' ? full + 1 : sort == 'g' ? price : 0;
        }

        boolean takes(Man m, int cell) {
            return m.sort == 'l' ? !dry(cell, 0) : dry(cell, 0);
        }

        boolean loses(Man m, int cell, int behind) {
            if (m.sort == 'l') {
                return dry(cell, behind);
            }
            int deep = dry(cell, behind) ? -1 : level(behind) - heights[cell];
            return deep >= (m.sort == 'z' ? 2 : 0);
        }

        void tick() {
            hour++;
            for (int c = 0; c < 15; c++) {
                if (holders[c] != null && loses(holders[c], c, 0)) {
                    holders[c] = null;
                }
            }
        }

        int held() {
            int bits = 0;
            for (int c = 0; c < 15; c++) {
                bits += holders[c] != null ? 1 << c : 0;
            }
            return bits;
        }

        int heldBy(Man m) {
            int bits = 0;
            for (int c = 0; c < 15; c++) {
                bits += holders[c] == m ? 1 << c : 0;
            }
            return bits;
        }
    }

    private final Row[] rows = new Row[8];
    private final StringBuilder tape = new StringBuilder();
    private final Deque<World> acts = new ArrayDeque<>();
    private final World[] images = new World[2];
    private final List<Integer> trace = new ArrayList<>();
    private World w = null;
    private int fault = 0;
    private int status = 0;

    int call(String name, int... a) {
        boolean withFindings = Set.of("row", "set", "copy", "drop", "raised", "who", "purses", "as").contains(name);
        try {
            int answer = answer(name, a);
            if (withFindings) {
                status = 0;
            }
            return answer;
        } catch (Refused r) {
            if (r.answer <= -1000011 && r.answer >= -1000015) {
                status = -1000010 - r.answer;
            }
            return r.answer;
        }
    }

    private int answer(String name, int[] a) {
        switch (name) {
            case "row": return row(a[0], a[1], a[2]);
            case "set": return set(a[0], a[1], a[2]);
            case "copy": return copy(a[0], a[1], a[2], a[3], a[4]);
            case "drop": return drop(a[0]);
            case "feed": return feed(a[0]);
            case "isle": return isle();
            case "fault": return fault;
            case "undo": return undo();
            case "hours": return hours(a[0]);
            case "bid": return bid(a[0], a[1]);
            case "raise": return raise(a[0], a[1]);
            case "give": return give(a[0], a[1], a[2]);
            case "bidder": return bidder(a[0], a[1]);
            case "cell": return cell(a[0], a[1]);
            case "price": return price(a[0], a[1]);
            case "ahead": return ahead(a[0], a[1]);
            case "stays": return stays(a[0]);
            case "when": return when(a[0], a[1]);
            case "cuts": return cuts();
            case "home": return home(a[0], a[1]);
            case "buy": return buy(a[0], a[1]);
            case "harvest": return harvest(a[0], a[1], a[2]);
            case "raised": return raised(a[0], a[1], a[2]);
            case "who": return who(a[0], a[1], a[2]);
            case "ring": return ring(a[0], a[1]);
            case "purses": return purses(a[0], a[1], a[2], a[3], a[4]);
            case "drawn": return drawn(a[0], a[1], a[2]);
            case "image": return image(a[0]);
            case "restore": return restore(a[0]);
            case "kind": return "bazgl".indexOf(man(a[0]).sort) + 1;
            case "as": return as(a[0], a[1]);
            case "ask": return ask(a[0], a[1]);
            case "trace": return a[0] < 0 || a[0] >= Math.min(16, trace.size()) ? NONE : trace.get(a[0]);
            case "count": return count(a[0]);
            case "status": return status;
            default: throw new IllegalStateException(name);
        }
    }

    private static void bad(boolean it) {
        if (it) {
            throw new Refused(BAD);
        }
    }

    private static void state(boolean it) {
        if (it) {
            throw new Refused(STATE);
        }
    }

    private static void full(boolean it) {
        if (it) {
            throw new Refused(FULL);
        }
    }

    private static void finding(boolean it, int number) {
        if (it) {
            throw new Refused(-1000010 - number);
        }
    }

    private static void among(int v, int least, int most) {
        bad(v < least || v > most);
    }

    private Man man(int one) {
        bad(w == null || one < 0 || one >= w.men.size());
        return w.men.get(one);
    }

    private static boolean lacks(Row r, long i, long n) {
        return i < 0 || n < 0 || i + n > r.items.length;
    }

    private int row(int row, int lane, int n) {
        among(row, 0, 7);
        among(lane, 0, 2);
        bad(n > 40);
        finding(n < 0, 4);
        rows[row] = new Row(lane, n);
        return n;
    }

    private int set(int row, int i, int v) {
        among(row, 0, 7);
        finding(rows[row] == null, 1);
        finding(lacks(rows[row], i, 1), 2);
        int bits = new int[] {8, 16, 32}[rows[row].lane];
        rows[row].items[i] = v << (32 - bits) >> (32 - bits);
        return rows[row].items[i];
    }

    private int copy(int a, int i, int b, int j, int n) {
        among(a, 0, 7);
        among(b, 0, 7);
        finding(rows[a] == null || rows[b] == null, 1);
        finding(rows[a].lane != rows[b].lane, 5);
        finding(lacks(rows[a], i, n) || lacks(rows[b], j, n), 2);
        int[] taken = Arrays.copyOfRange(rows[a].items, i, i + n);
        for (int k = 0; k < n; k++) {
            rows[b].items[j + k] = taken[k];
        }
        return n;
    }

    private int drop(int row) {
        among(row, 0, 7);
        finding(rows[row] == null, 1);
        int n = rows[row].items.length;
        rows[row] = null;
        return n;
    }

    private int feed(int letter) {
        among(letter, 0, 255);
        full(tape.length() == 100);
        tape.append((char) letter);
        return tape.length();
    }

    /** Each token: its first byte, its text; the end is an empty one. */
    private static List<Object[]> tokens(String text) {
        List<Object[]> tokens = new ArrayList<>();
        int at = 0;
        while (at < text.length()) {
            int end = at + 1;
            if (Character.isDigit(text.charAt(at)) && text.charAt(at) < 128) {
                while (end < text.length() && text.charAt(end) >= '0' && text.charAt(end) <= '9') {
                    end++;
                }
            }
            tokens.add(new Object[] {at, text.substring(at, end)});
            at = end;
        }
        tokens.add(new Object[] {text.length(), ""});
        return tokens;
    }

    private int isle() {
        List<Object[]> tokens = tokens(tape.toString());
        tape.setLength(0);
        World read = new World();
        String pattern = "i#,#,#;h" + "c".repeat(15) + ";b#,#;";
        List<Integer> numbers = new ArrayList<>();
        int step = 0;
        for (Object[] token : tokens) {
            String text = (String) token[1];
            if (step == pattern.length()) {
                if (text.isEmpty()) {
                    break;
                }
                step = pattern.indexOf('b');
            }
            int found = faultOf(pattern.charAt(step), text, step, numbers, read);
            if (found != 0) {
                fault = found;
                return -1000100 - (Integer) token[0];
            }
            take(pattern.charAt(step), text, step, numbers, read);
            step++;
        }
        read.low = numbers.get(0);
        read.high = numbers.get(1);
        read.price = numbers.get(2);
        for (Man m : read.men) {
            m.purse = numbers.get(3 + 2 * m.number);
            m.home = numbers.get(4 + 2 * m.number);
        }
        w = read;
        acts.clear();
        return w.men.size();
    }

    private static int faultOf(char due, String text, int step, List<Integer> numbers, World read) {
        switch (due) {
            case '#':
                if (!text.matches("[0-9]{1,2}")) {
                    return 1;
                }
                int v = Integer.parseInt(text);
                int at = numbers.size();
                int least = at == 1 ? numbers.get(0) : at == 2 ? 1 : 0;
                int most = at < 3 ? 9 : at % 2 == 1 ? 99 : 14;
                return v < least || v > most ? 2 : 0;
            case 'c':
                return text.matches("[a-j]") ? 0 : 1;
            case 'b':
                return !text.matches("[bazgl]") ? 1 : read.men.size() == 5 ? 3 : 0;
            default:
                return text.equals("" + due) ? 0 : 1;
        }
    }

    private static void take(char due, String text, int step, List<Integer> numbers, World read) {
        if (due == '#') {
            numbers.add(Integer.parseInt(text));
        } else if (due == 'c') {
            read.heights[step - 8] = text.charAt(0) - 'a';
        } else if (due == 'b') {
            Man m = new Man();
            m.sort = text.charAt(0);
            m.number = read.men.size();
            read.men.add(m);
        }
    }

    private int undo() {
        state(acts.isEmpty());
        w = acts.removeLast();
        return acts.size();
    }

    private void act() {
        acts.addLast(w.again());
        if (acts.size() > 24) {
            acts.removeFirst();
        }
    }

    private int hours(int n) {
        state(w == null);
        among(n, 1, 24);
        full(w.hour + n >= 1000);
        for (int k = 0; k < n; k++) {
            act();
            w.tick();
        }
        return w.held();
    }

    private int bid(int bidder, int cell) {
        Man m = man(bidder);
        among(cell, 0, 14);
        state(w.holders[cell] != null);
        state(!w.takes(m, cell));
        full(m.purse < w.cost(m.sort, cell));
        act();
        m.purse -= w.cost(m.sort, cell);
        w.holders[cell] = m;
        return m.purse;
    }

    private int raise(int bidder, int cell) {
        Man m = man(bidder);
        among(cell, 0, 14);
        state(w.holders[cell] != m);
        full(w.heights[cell] == 9);
        act();
        return ++w.heights[cell];
    }

    private int give(int from, int to, int cell) {
        Man giver = man(from);
        Man taker = man(to);
        bad(giver == taker);
        among(cell, 0, 14);
        state(w.holders[cell] != giver);
        act();
        w.holders[cell] = taker;
        return w.heldBy(taker);
    }

    private int bidder(int bidder, int what) {
        Man m = man(bidder);
        among(what, 0, 2);
        return what == 0 ? m.purse : what == 1 ? m.home : w.heldBy(m);
    }

    private int cell(int cell, int what) {
        state(w == null);
        among(cell, 0, 14);
        among(what, 0, 3);
        if (what == 0) {
            return w.heights[cell];
        }
        if (what == 1) {
            return w.holders[cell] == null ? NONE : w.holders[cell].number;
        }
        if (what == 2) {
            return w.dry(cell, 0) ? 1 : 0;
        }
        return w.dry(cell, 0) ? 0 : w.level(0) - w.heights[cell];
    }

    private int price(int bidder, int cell) {
        Man m = man(bidder);
        among(cell, 0, 14);
        return w.takes(m, cell) ? w.cost(m.sort, cell) : NONE;
    }

    private static boolean beside(int a, int b) {
        return Math.abs(a % 5 - b % 5) + Math.abs(a / 5 - b / 5) == 1;
    }

    private static int parts(Set<Integer> cells) {
        Set<Integer> rest = new HashSet<>(cells);
        int parts = 0;
        while (!rest.isEmpty()) {
            Deque<Integer> todo = new ArrayDeque<>();
            Integer first = rest.iterator().next();
            rest.remove(first);
            todo.add(first);
            while (!todo.isEmpty()) {
                int c = todo.remove();
                for (Integer d : new ArrayList<>(rest)) {
                    if (beside(c, d)) {
                        rest.remove(d);
                        todo.add(d);
                    }
                }
            }
            parts++;
        }
        return parts;
    }

    private Set<Integer> drySet(int behind) {
        Set<Integer> cells = new HashSet<>();
        for (int c = 0; c < 15; c++) {
            if (w.dry(c, behind)) {
                cells.add(c);
            }
        }
        return cells;
    }

    private int ahead(int n, int what) {
        state(w == null);
        among(n, 0, 60);
        among(what, 0, 2);
        return what == 0 ? w.level(n) : what == 1 ? w.dryBits(n) : parts(drySet(n));
    }

    private int stays(int cell) {
        state(w == null);
        among(cell, 0, 14);
        if (w.holders[cell] == null) {
            return NONE;
        }
        World then = w.again();
        for (int n = 1; n <= 60; n++) {
            then.tick();
            if (then.holders[cell] == null) {
                return n;
            }
        }
        return NONE;
    }

    private int when(int cell, int dry) {
        state(w == null);
        among(cell, 0, 14);
        among(dry, 0, 1);
        World then = w.again();
        for (int n = 0; n <= 60; n++) {
            if (then.dry(cell, 0) == (dry == 1)) {
                return n;
            }
            then.tick();
        }
        return NONE;
    }

    private int cuts() {
        state(w == null);
        int bits = 0;
        for (int c = 0; c < 15; c++) {
            Set<Integer> less = drySet(0);
            less.remove(c);
            if (parts(less) > parts(drySet(0))) {
                bits |= 1 << c;
            }
        }
        return bits;
    }

    private int home(int bidder, int cell) {
        Man m = man(bidder);
        among(cell, 0, 14);
        Set<Integer> in = new HashSet<>(Set.of(cell));
        for (int n = 0; n <= 24; n++) {
            if (in.contains(m.home)) {
                return n;
            }
            Set<Integer> then = new HashSet<>();
            for (int c : in) {
                for (int d = 0; d < 15; d++) {
                    boolean open = w.holders[d] == null || w.holders[d] == m;
                    if ((d == c || beside(c, d)) && open && w.dry(d, n + 1)) {
                        then.add(d);
                    }
                }
            }
            in = then;
        }
        return NONE;
    }

    private List<Integer> can(Man m) {
        List<Integer> cells = new ArrayList<>();
        for (int c = 0; c < 15; c++) {
            if (w.holders[c] == null && w.takes(m, c)) {
                cells.add(c);
            }
        }
        return cells;
    }

    private int buy(int bidder, int what) {
        Man m = man(bidder);
        among(what, 0, 1);
        List<Integer> can = can(m);
        int bestHeights = 0;
        int bestCost = 0;
        int bestBits = 0;
        for (int pick = 0; pick < 1 << can.size(); pick++) {
            int heights = 0;
            int cost = 0;
            int bits = 0;
            for (int k = 0; k < can.size(); k++) {
                if ((pick >> k & 1) == 1) {
                    heights += w.heights[can.get(k)];
                    cost += w.cost(m.sort, can.get(k));
                    bits |= 1 << can.get(k);
                }
            }
            boolean better = heights > bestHeights
                || heights == bestHeights && (cost < bestCost || cost == bestCost && bits < bestBits);
            if (cost <= m.purse && better) {
                bestHeights = heights;
                bestCost = cost;
                bestBits = bits;
            }
        }
        return what == 0 ? bestHeights : bestBits;
    }

    private int harvest(int bidder, int k, int n) {
        Man m = man(bidder);
        among(k, 1, 15);
        among(n, 1, 12);
        List<Integer> prices = new ArrayList<>();
        for (int c : can(m)) {
            World then = w.again();
            then.holders[c] = then.men.get(bidder);
            for (int t = 0; t < n; t++) {
                then.tick();
            }
            if (then.holders[c] != null) {
                prices.add(w.cost(m.sort, c));
            }
        }
        prices.sort(null);
        return prices.size() < k ? NONE : prices.subList(0, k).stream().mapToInt(Integer::intValue).sum();
    }

    private int raised(int row, int i, int n) {
        state(w == null);
        among(row, 0, 7);
        among(n, 1, 12);
        finding(rows[row] == null, 1);
        finding(lacks(rows[row], i, n), 2);
        int bits = 0;
        for (int c = 0; c < 15; c++) {
            World other = w.again();
            other.heights[c]++;
            boolean so = other.heights[c] <= 9;
            for (int t = 1; t <= n; t++) {
                so &= other.dryBits(t) == rows[row].items[i + t - 1];
            }
            bits |= so ? 1 << c : 0;
        }
        return bits;
    }

    private int who(int row, int i, int n) {
        state(w == null);
        among(row, 0, 7);
        among(n, 1, 12);
        finding(rows[row] == null, 1);
        finding(lacks(rows[row], i, 2L * n), 2);
        for (int k = 0; k < n; k++) {
            among(rows[row].items[i + 2 * k], 0, 14);
        }
        int bits = 0;
        for (int kind = 1; kind <= 5; kind++) {
            boolean all = true;
            for (int k = 0; k < n; k++) {
                all &= w.cost("bazgl".charAt(kind - 1), rows[row].items[i + 2 * k]) == rows[row].items[i + 2 * k + 1];
            }
            bits |= all ? 1 << kind : 0;
        }
        return bits;
    }

    private int ring(int cell, int what) {
        state(w == null);
        among(cell, 0, 14);
        among(what, 0, 1);
        int cost = 0;
        int many = 0;
        for (int c = 0; c < 15; c++) {
            int dx = Math.abs(c % 5 - cell % 5);
            int dy = Math.abs(c / 5 - cell / 5);
            if (Math.max(dx, dy) == 1) {
                many++;
                cost += w.holders[c] == null ? w.cost('b', c) : 0;
            }
        }
        return what == 0 ? cost : many;
    }

    private int purses(int bidder, int row, int i, int n, int what) {
        Man m = man(bidder);
        among(row, 0, 7);
        among(n, 1, 12);
        among(what, 0, 1);
        finding(rows[row] == null, 1);
        finding(lacks(rows[row], i, n), 2);
        for (int k = 0; k < n; k++) {
            among(rows[row].items[i + k], 0, 14);
        }
        int many = 0;
        int least = NONE;
        for (int p = 99; p >= 0; p--) {
            int left = p;
            boolean so = true;
            for (int k = 0; k < n; k++) {
                int cost = w.cost(m.sort, rows[row].items[i + k]);
                so &= k < n - 1 ? cost <= left : cost > left;
                left -= cost;
            }
            if (so) {
                many++;
                least = p;
            }
        }
        return what == 0 ? many : least;
    }

    private int drawn(int n, int seed, int what) {
        state(w == null);
        among(n, 0, 60);
        among(seed, 1, 999999);
        among(what, 0, 1);
        World then = w.again();
        long x = seed;
        for (int k = 0; k < n; k++) {
            x = Math.floorMod(x * 16807L, 2147483647L);
            Man m = then.men.get((int) (x % then.men.size()));
            int c = (int) (x % 15);
            if (then.holders[c] == null && then.takes(m, c) && m.purse >= then.cost(m.sort, c)) {
                m.purse -= then.cost(m.sort, c);
                then.holders[c] = m;
            }
            then.tick();
        }
        return what == 0 ? Integer.bitCount(then.held()) : then.men.stream().mapToInt(m -> m.purse).sum();
    }

    private int image(int k) {
        among(k, 0, 1);
        state(w == null);
        images[k] = w.again();
        return 1;
    }

    private int restore(int k) {
        among(k, 0, 1);
        state(images[k] == null);
        w = images[k].again();
        acts.clear();
        return 1;
    }

    private int as(int one, int kind) {
        Bidder b = man(one).asKind(trace);
        among(kind, 0, 5);
        Class<?>[] kinds = {Bidder.class, Buyer.class, Abbey.class, Sleeper.class, Goat.class, Seal.class};
        finding(!kinds[kind].isInstance(b), 3);
        return one;
    }

    private int ask(int one, int what) {
        Bidder b = man(one).asKind(trace);
        among(what, 0, 1);
        trace.clear();
        return what == 0 ? b.size() : b.mark();
    }

    private int count(int what) {
        among(what, 0, 7);
        switch (what) {
            case 0: return (int) Arrays.stream(rows).filter(r -> r != null).count();
            case 6: return acts.size();
            case 7: return tape.length();
            default: break;
        }
        if (w == null) {
            return 0;
        }
        return new int[] {0, w.men.size(), w.level(0), w.price, w.hour, w.held()}[what];
    }
}
