import java.util.ArrayList;
import java.util.HashMap;
import java.util.List;
import java.util.Map;

/**
 * The document written down again as plainly as can be, by other ways than the program's (all orders of PIECES, flows
 * instead of cuts, TEXTS taken apart as texts), so that long random runs can be held against it.
 */
final class NaiveBoard {
    static final int NONE = -1;

    static final class Refused extends RuntimeException {
        private static final long serialVersionUID = 1L;

        Refused() {
            super(null, null, false, false);
        }
    }

    static final class Ord {
        int from;
        int to;
        int told;
        String[] clauses;
    }

    int now = 0;
    int turns = 50;
    final List<int[]> cloths = new ArrayList<>();
    final List<Integer> joints = new ArrayList<>();
    final List<List<int[]>> sticks = new ArrayList<>();
    final List<List<int[]>> loads = new ArrayList<>();
    final List<int[]> things = new ArrayList<>();
    final List<List<int[]>> pieces = new ArrayList<>();
    final List<int[]> makers = new ArrayList<>();
    final List<Boolean> names = new ArrayList<>();
    final List<int[]> stores = new ArrayList<>();
    final List<Integer> made = new ArrayList<>();
    final List<Ord> orders = new ArrayList<>();
    final List<int[]> shops = new ArrayList<>();
    final List<Integer> prices = new ArrayList<>();
    final List<int[]> persons = new ArrayList<>();
    final List<int[]> dockets = new ArrayList<>();
    final List<int[]> seenOnes = new ArrayList<>();
    final List<int[]> rubbedOnes = new ArrayList<>();
    final List<int[]> markedMade = new ArrayList<>();
    final List<int[]> markedBought = new ArrayList<>();
    final List<Integer> tape = new ArrayList<>();

    static boolean in(int v, int lo, int hi) {
        return lo <= v && v <= hi;
    }

    static boolean has(List<?> list, int i) {
        return i >= 0 && i < list.size();
    }

    int goes() {
        if (now == 499) {
            return NONE;
        }
        now++;
        int g = last('g', NONE, NONE, now, now, NONE);
        for (int[] p : persons) {
            p[0] = Math.min(1000000, p[0] + Math.max(g, 0));
        }
        for (int i = 0; i < made.size(); i++) {
            made.set(i, 0);
        }
        return now;
    }

    int cloth(int number, int wear, int cost) {
        if (!in(number, 100, 999) || !in(wear, 1, 1000) || !in(cost, 1, 10000) || cloths.size() == 20) {
            return NONE;
        }
        for (int[] c : cloths) {
            if (c[0] == number) {
                return NONE;
            }
        }
        cloths.add(new int[] {number, wear, cost});
        return cloths.size() - 1;
    }

    int drawing(int n) {
        if (!in(n, 2, 8) || joints.size() == 22) {
            return NONE;
        }
        joints.add(n);
        sticks.add(new ArrayList<>());
        loads.add(new ArrayList<>());
        return joints.size() - 1;
    }

    int stick(int d, int a, int b, int timber) {
        if (!has(joints, d) || !in(a, 0, joints.get(d) - 1) || !in(b, 0, joints.get(d) - 1) || a == b) {
            return NONE;
        }
        if (!in(timber, 0, 2) || sticks.get(d).size() == 8) {
            return NONE;
        }
        sticks.get(d).add(new int[] {a, b, timber});
        return sticks.get(d).size() - 1;
    }

    boolean load(int d, int joint, int pounds) {
        if (!has(joints, d) || !in(joint, 1, joints.get(d) - 1) || !in(pounds, 1, 500) || loads.get(d).size() == 8) {
            return false;
        }
        loads.get(d).add(new int[] {joint, pounds});
        return true;
    }

    static final int[] BORNE = {10, 25, 60};
    static final int[] USED = {2, 4, 9};

    /** Leads as much as it can, at most so much, along one way; 0: there is no way. */
    static int push(int[][] room, int from, int to, boolean[] met, int most) {
        if (from == to) {
            return most;
        }
        met[from] = true;
        for (int j = 0; j < room.length; j++) {
            if (!met[j] && room[from][j] > 0) {
                int led = push(room, j, to, met, Math.min(most, room[from][j]));
                if (led > 0) {
                    room[from][j] -= led;
                    room[j][from] += led;
                    return led;
                }
            }
        }
        return 0;
    }

    boolean standsWith(int d, int[] timbers) {
        for (int[] l : loads.get(d)) {
            int n = joints.get(d);
            int[][] room = new int[n][n];
            for (int s = 0; s < sticks.get(d).size(); s++) {
                int[] st = sticks.get(d).get(s);
                room[st[0]][st[1]] += BORNE[timbers[s]];
                room[st[1]][st[0]] += BORNE[timbers[s]];
            }
            int flow = 0;
            int led = 1;
            while (led > 0) {
                led = push(room, l[0], 0, new boolean[n], Integer.MAX_VALUE);
                flow += led;
            }
            if (flow < l[1]) {
                return false;
            }
        }
        return true;
    }

    int bears(int d) {
        if (!has(joints, d)) {
            return NONE;
        }
        int[] timbers = new int[sticks.get(d).size()];
        for (int s = 0; s < timbers.length; s++) {
            timbers[s] = sticks.get(d).get(s)[2];
        }
        return standsWith(d, timbers) ? 1 : 0;
    }

    final Map<String, int[]> cheapestKept = new HashMap<>();

    int cheapest(int d, int what) {
        if (!has(joints, d) || what < -1 || what >= sticks.get(d).size()) {
            return NONE;
        }
        int n = sticks.get(d).size();
        String key = d + " " + n + " " + loads.get(d).size();
        if (!cheapestKept.containsKey(key)) {
            cheapestKept.put(key, searchCheapest(d, n));
        }
        int[] best = cheapestKept.get(key);
        return best == null ? NONE : what == NONE ? best[n] : best[what];
    }

    private int[] searchCheapest(int d, int n) {
        int all = 1;
        for (int i = 0; i < n; i++) {
            all *= 3;
        }
        int[] best = null;
        for (int c = 0; c < all; c++) {
            int[] t = new int[n + 1];
            int rest = c;
            for (int i = n - 1; i >= 0; i--) {
                t[i] = rest % 3;
                rest /= 3;
                t[n] += USED[t[i]];
            }
            if ((best == null || t[n] < best[n]) && standsWith(d, t)) {
                best = t;
            }
        }
        return best;
    }

    int thing(int kind, int of, int pockets, int inches) {
        boolean right = kind == 0 ? has(cloths, of) : kind == 1 ? has(joints, of) : kind == 2 && of == NONE;
        if (!right || !in(pockets, 0, 9) || !in(inches, 1, 10000) || things.size() == 30) {
            return NONE;
        }
        things.add(new int[] {kind, of, pockets, inches});
        pieces.add(new ArrayList<>());
        shops.add(new int[2]);
        prices.add(1);
        return things.size() - 1;
    }

    boolean coat(int x) {
        return has(things, x) && things.get(x)[0] == 0;
    }

    int piece(int x, int length, int width) {
        if (!coat(x) || !in(length, 1, 60) || !in(width, 1, 60) || pieces.get(x).size() == 9) {
            return NONE;
        }
        pieces.get(x).add(new int[] {length, width});
        return pieces.get(x).size() - 1;
    }

    boolean oneIsWider(int x, int width) {
        return pieces.get(x).stream().anyMatch(p -> p[1] > width);
    }

    int lay(int x, int width, List<Integer> order) {
        List<List<int[]>> rows = new ArrayList<>();
        for (int p : order) {
            int[] piece = pieces.get(x).get(p);
            int used = rows.isEmpty() ? width : rows.get(rows.size() - 1).stream().mapToInt(q -> q[1]).sum();
            if (width - used < piece[1]) {
                rows.add(new ArrayList<>());
            }
            rows.get(rows.size() - 1).add(piece);
        }
        return rows.stream().mapToInt(r -> r.stream().mapToInt(q -> q[0]).max().orElse(0)).sum();
    }

    int laid(int x, int width, int n) {
        if (!coat(x) || !in(width, 1, 200) || n < 0 || n > tape.size()) {
            return NONE;
        }
        List<Integer> order = new ArrayList<>(tape.subList(0, n));
        tape.clear();
        List<Integer> sorted = new ArrayList<>(order);
        sorted.sort(null);
        List<Integer> whole = new ArrayList<>();
        for (int i = 0; i < pieces.get(x).size(); i++) {
            whole.add(i);
        }
        return !sorted.equals(whole) || oneIsWider(x, width) ? -2 : lay(x, width, order);
    }

    final Map<String, int[]> leastKept = new HashMap<>();

    int least(int x, int width, int what) {
        if (!coat(x) || !in(width, 1, 200) || what < -1 || what >= pieces.get(x).size() || oneIsWider(x, width)) {
            return NONE;
        }
        int n = pieces.get(x).size();
        int[] best = leastKept.computeIfAbsent(x + " " + width + " " + n, k -> {
            int[] b = new int[n + 1];
            b[n] = Integer.MAX_VALUE;
            tryOrders(x, width, new int[n], 0, new boolean[n], b);
            return b;
        });
        return what == NONE ? best[n] : best[what];
    }

    private void tryOrders(int x, int width, int[] row, int at, boolean[] used, int[] best) {
        int n = row.length;
        if (at == n) {
            int length = 0;
            int left = 0;
            int tall = 0;
            for (int p : row) {
                int[] piece = pieces.get(x).get(p);
                if (left < piece[1]) {
                    length += tall;
                    tall = 0;
                    left = width;
                }
                left -= piece[1];
                tall = Math.max(tall, piece[0]);
            }
            if (length + tall < best[n]) {
                System.arraycopy(row, 0, best, 0, n);
                best[n] = length + tall;
            }
            return;
        }
        for (int p = 0; p < n; p++) {
            if (!used[p]) {
                used[p] = true;
                row[at] = p;
                tryOrders(x, width, row, at + 1, used, best);
                used[p] = false;
            }
        }
    }

    int maker(int town, int plant, int hands, int rate, int hire) {
        if (!in(town, 0, 7) || !in(plant, 1, 10000) || !in(hands, 0, 1000) || !in(rate, 1, 100)) {
            return NONE;
        }
        if (!in(hire, 0, 10000) || makers.size() == 12) {
            return NONE;
        }
        makers.add(new int[] {town, plant, hands, rate, hire});
        names.add(false);
        stores.add(new int[20]);
        made.add(0);
        return makers.size() - 1;
    }

    boolean named(int m, boolean is) {
        if (!has(makers, m) || names.get(m) == is) {
            return false;
        }
        names.set(m, is);
        return true;
    }

    int yards(int m, int cloth, int n) {
        if (!has(makers, m) || !has(cloths, cloth) || !in(n, 1, 10000) || stores.get(m)[cloth] + n > 1000000) {
            return NONE;
        }
        return stores.get(m)[cloth] += n;
    }

    int feed(int a, int b, int c, int d, int e) {
        if (tape.size() > 380) {
            return NONE;
        }
        for (int four : new int[] {a, b, c, d, e}) {
            tape.add(four >>> 24);
            tape.add(four >>> 16 & 255);
            tape.add(four >>> 8 & 255);
            tape.add(four & 255);
        }
        return tape.size();
    }

    int order(int from, int to, int n) {
        if (!in(from, 0, 499) || !in(to, 0, 499) || from > to) {
            return NONE;
        }
        if (!in(n, 1, 160) || orders.size() == 30 || tape.size() < n) {
            return NONE;
        }
        StringBuilder text = new StringBuilder();
        for (int i = 0; i < n; i++) {
            text.append((char) (int) tape.get(i));
        }
        tape.clear();
        int fault = new FaultFinder(text.toString()).find();
        if (fault != 0) {
            return fault;
        }
        Ord o = new Ord();
        o.from = from;
        o.to = to;
        o.told = now;
        o.clauses = text.toString().split(";");
        orders.add(o);
        return orders.size() - 1;
    }

    /** Goes sign by sign with a stack of what is open, never looking ahead. */
    static final class FaultFinder {
        final String text;
        String state = "clause";
        String after = "";
        String open = "";
        int clauses = 0;
        int side = 0;
        int digits = 0;
        int value = 0;
        int most = 0;
        int firstDigit = 0;

        FaultFinder(String text) {
            this.text = text;
        }

        int find() {
            for (int i = 0; i <= text.length(); i++) {
                int kind = next(i < text.length() ? text.charAt(i) : 0xffff, i);
                if (kind == 3) {
                    return -3000 - firstDigit;
                }
                if (kind != 0) {
                    return -1000 * kind - i;
                }
            }
            return 0;
        }

        void digitsFrom(int i, int highest, String then) {
            state = "digits";
            digits = 0;
            value = 0;
            most = highest;
            firstDigit = i;
            after = then;
        }

        int next(char c, int i) {
            boolean digit = c >= '0' && c <= '9';
            if (state.equals("digits")) {
                if (digit) {
                    digits++;
                    value = value * 10 + c - '0';
                    return digits == 6 ? 2 : 0;
                }
                if (digits == 0) {
                    return 1;
                }
                if (value > most) {
                    return 3;
                }
                state = after;
            }
            switch (state) {
                case "clause": {
                    if ("bmpcgdx".indexOf(c) < 0) {
                        return 1;
                    }
                    clauses++;
                    if (clauses == 13) {
                        return 4;
                    }
                    if (c == 'x') {
                        digitsFrom(i + 1, 29, "dot");
                    } else if (c == 'b' || c == 'm') {
                        state = "paren";
                    } else {
                        digitsFrom(i + 1, c == 'd' ? 100 : 99999, "paren");
                    }
                    return 0;
                }
                case "dot":
                    if (c != '.') {
                        return 1;
                    }
                    digitsFrom(i + 1, 11, "behind clause");
                    return 0;
                case "paren":
                    if (c != '(') {
                        return 1;
                    }
                    open = "(";
                    state = "piece";
                    return 0;
                case "piece":
                    if (c == '(' || c == '!') {
                        return opens(c);
                    }
                    side = 0;
                    return factor(c, i);
                case "factor":
                    return factor(c, i);
                case "behind factor":
                    return behindFactor(c);
                case "behind piece":
                    return behindPiece(c);
                default:
                    if (c == 0xffff) {
                        return 0;
                    }
                    if (c != ';') {
                        return 1;
                    }
                    state = "clause";
                    return 0;
            }
        }

        int opens(char c) {
            open += c;
            return open.length() == 7 ? 5 : 0;
        }

        int factor(char c, int i) {
            if (c == '[') {
                state = "factor";
                return opens(c);
            }
            if (c >= '0' && c <= '9') {
                digitsFrom(i, 99999, "behind factor");
                digits = 1;
                value = c - '0';
                return 0;
            }
            state = "behind factor";
            return "wknqiatjh".indexOf(c) >= 0 ? 0 : 1;
        }

        int behindFactor(char c) {
            if ("+-*/%".indexOf(c) >= 0) {
                state = "factor";
                return 0;
            }
            if (open.endsWith("[")) {
                open = open.substring(0, open.length() - 1);
                return c == ']' ? 0 : 1;
            }
            if (side == 0) {
                side = 1;
                state = "factor";
                return "<>=".indexOf(c) >= 0 ? 0 : 1;
            }
            return behindPiece(c);
        }

        int behindPiece(char c) {
            while (open.endsWith("!")) {
                open = open.substring(0, open.length() - 1);
            }
            if (c == '&' || c == '|') {
                state = "piece";
                return 0;
            }
            if (c != ')') {
                return 1;
            }
            open = open.substring(0, open.length() - 1);
            state = open.isEmpty() ? "behind clause" : "behind piece";
            return 0;
        }
    }

    /** Places of the signs that stand in no ( and no [ of the text. */
    static List<Integer> bare(String s, String signs) {
        List<Integer> places = new ArrayList<>();
        int depth = 0;
        for (int i = 0; i < s.length(); i++) {
            char c = s.charAt(i);
            if (c == '(' || c == '[') {
                depth++;
            } else if (c == ')' || c == ']') {
                depth--;
            } else if (depth == 0 && signs.indexOf(c) >= 0) {
                places.add(i);
            }
        }
        return places;
    }

    static boolean condition(String s, Map<Character, Integer> letters) {
        List<Integer> bars = bare(s, "|");
        if (!bars.isEmpty()) {
            int at = bars.get(0);
            return condition(s.substring(0, at), letters) || condition(s.substring(at + 1), letters);
        }
        List<Integer> ands = bare(s, "&");
        if (!ands.isEmpty()) {
            int at = ands.get(0);
            return condition(s.substring(0, at), letters) && condition(s.substring(at + 1), letters);
        }
        if (s.startsWith("!")) {
            return !condition(s.substring(1), letters);
        }
        if (s.startsWith("(")) {
            return condition(s.substring(1, s.length() - 1), letters);
        }
        int at = bare(s, "<>=").get(0);
        int left = sum(s.substring(0, at), letters);
        int right = sum(s.substring(at + 1), letters);
        return s.charAt(at) == '<' ? left < right : s.charAt(at) == '>' ? left > right : left == right;
    }

    static int sum(String s, Map<Character, Integer> letters) {
        for (String signs : new String[] {"+-", "*/%"}) {
            List<Integer> places = bare(s, signs);
            if (!places.isEmpty()) {
                int at = places.get(places.size() - 1);
                int left = sum(s.substring(0, at), letters);
                int right = sum(s.substring(at + 1), letters);
                switch (s.charAt(at)) {
                    case '+':
                        return left + right;
                    case '-':
                        return left - right;
                    case '*':
                        return left * right;
                    default:
                        if (right == 0) {
                            throw new Refused();
                        }
                        return s.charAt(at) == '/' ? left / right : left % right;
                }
            }
        }
        if (s.startsWith("[")) {
            return sum(s.substring(1, s.length() - 1), letters);
        }
        return Character.isDigit(s.charAt(0)) ? Integer.parseInt(s) : letters.get(s.charAt(0));
    }

    Map<Character, Integer> letters(int x, int m, int week) {
        Map<Character, Integer> l = new HashMap<>();
        for (char c : "wknqiatjh".toCharArray()) {
            l.put(c, 0);
        }
        l.put('w', week);
        if (x != NONE) {
            int[] t = things.get(x);
            l.put('k', t[0]);
            l.put('q', t[2]);
            l.put('i', t[3]);
            if (t[0] == 0) {
                l.put('n', cloths.get(t[1])[0]);
                l.put('a', cloths.get(t[1])[1]);
            } else if (t[0] == 1) {
                l.put('n', t[1]);
            }
        }
        if (m != NONE) {
            l.put('t', makers.get(m)[0]);
            l.put('j', names.get(m) ? 1 : 0);
            l.put('h', makers.get(m)[2]);
        }
        return l;
    }

    boolean struck(int i, int j, int week, int t, int without) {
        for (int o = i + 1; o < orders.size(); o++) {
            if (inForce(o, week, t, without)) {
                for (int c = 0; c < orders.get(o).clauses.length; c++) {
                    String s = orders.get(o).clauses[c];
                    if (s.startsWith("x")) {
                        String[] two = s.substring(1).split("\\.");
                        boolean hits = Integer.parseInt(two[0]) == i && Integer.parseInt(two[1]) == j;
                        if (hits && !struck(o, c, week, t, without)) {
                            return true;
                        }
                    }
                }
            }
        }
        return false;
    }

    boolean inForce(int o, int week, int t, int without) {
        Ord ord = orders.get(o);
        return o != without && ord.told <= t && in(week, ord.from, ord.to);
    }

    boolean holds(String clause, int x, int m, int week) {
        try {
            return condition(clause.substring(clause.indexOf('(') + 1, clause.length() - 1), letters(x, m, week));
        } catch (Refused r) {
            return false;
        }
    }

    /** All (order, clause) of a letter that count and hold, from the lowest on. */
    List<int[]> all(char letter, int x, int m, int week, int t, int without) {
        List<int[]> found = new ArrayList<>();
        for (int o = 0; o < orders.size(); o++) {
            if (inForce(o, week, t, without)) {
                for (int c = 0; c < orders.get(o).clauses.length; c++) {
                    String s = orders.get(o).clauses[c];
                    if (s.charAt(0) == letter && holds(s, x, m, week) && !struck(o, c, week, t, without)) {
                        found.add(new int[] {o, c});
                    }
                }
            }
        }
        return found;
    }

    int last(char letter, int x, int m, int week, int t, int without) {
        List<int[]> found = all(letter, x, m, week, t, without);
        if (found.isEmpty()) {
            return NONE;
        }
        int[] l = found.get(found.size() - 1);
        String s = orders.get(l[0]).clauses[l[1]];
        return letter == 'b' || letter == 'm' ? 1 : Integer.parseInt(s.substring(1, s.indexOf('(')));
    }

    int number(int which, int x, int m, int week, int t) {
        if (!in(which, 0, 5) || !in(week, 0, 499) || !in(t, 0, 499)) {
            return NONE;
        }
        if (which == 2 ? x != NONE || m != NONE : !has(things, x) || m != NONE && !has(makers, m)) {
            return NONE;
        }
        int n = last("pcgdmb".charAt(which), x, m, week, t, NONE);
        return which == 1 ? n : Math.max(n, 0);
    }

    int why(int x, int m, int what) {
        if (!has(things, x) || !has(makers, m) || !in(what, 0, 1)) {
            return NONE;
        }
        List<int[]> found = all('b', x, m, now, now, NONE);
        return found.isEmpty() ? NONE : found.get(0)[what];
    }

    int makes(int m, int x, int n, boolean marked) {
        if (!has(makers, m) || !has(things, x) || !in(n, 1, 10000) || shops.get(x)[marked ? 1 : 0] + n > 1000000) {
            return NONE;
        }
        if (last('b', x, m, now, now, NONE) != NONE) {
            return -2;
        }
        if (marked && last('m', x, m, now, now, NONE) == NONE) {
            return -3;
        }
        int[] t = things.get(x);
        int need = 0;
        if (t[0] == 0) {
            need = (int) Math.ceil(t[3] * (double) n / 36);
            if (need > stores.get(m)[t[1]]) {
                return -4;
            }
        }
        int[] mk = makers.get(m);
        if (made.get(m) + n > Math.min(mk[1], mk[2] * mk[3])) {
            return -5;
        }
        if (t[0] == 0) {
            stores.get(m)[t[1]] -= need;
        }
        made.set(m, made.get(m) + n);
        shops.get(x)[marked ? 1 : 0] += n;
        if (marked) {
            markedMade.add(new int[] {x, m, now, n});
        }
        return shops.get(x)[0] + shops.get(x)[1];
    }

    int person(int purse) {
        if (!in(purse, 0, 1000000) || persons.size() == 40) {
            return NONE;
        }
        persons.add(new int[] {0, purse});
        return persons.size() - 1;
    }

    boolean price(int x, int farthings) {
        if (!has(things, x) || !in(farthings, 1, 100000)) {
            return false;
        }
        prices.set(x, farthings);
        return true;
    }

    int paid(int x) {
        int c = last('c', x, NONE, now, now, NONE);
        return c != NONE && c < prices.get(x) ? c : prices.get(x);
    }

    int buys(int o, int x, boolean marked) {
        if (!has(persons, o) || !has(things, x)) {
            return NONE;
        }
        if (shops.get(x)[marked ? 1 : 0] == 0) {
            return -2;
        }
        int p = Math.max(0, last('p', x, NONE, now, now, NONE));
        if (persons.get(o)[0] < p) {
            return -3;
        }
        int paid = paid(x);
        if (persons.get(o)[1] < paid) {
            return -4;
        }
        persons.get(o)[0] -= p;
        persons.get(o)[1] -= paid;
        shops.get(x)[marked ? 1 : 0]--;
        if (marked) {
            markedBought.add(new int[] {x, now});
        }
        for (int[] d : dockets) {
            if (d[0] == o && d[1] == x) {
                d[4] = 0;
            }
        }
        return paid;
    }

    int gone(int x, int n) {
        if (!has(things, x) || !in(n, 1, 100000)) {
            return NONE;
        }
        int there = shops.get(x)[0] + shops.get(x)[1];
        return there == 0 ? NONE : now + (there - 1) / n;
    }

    int docket(int o, int x, int since, int weight) {
        if (!has(persons, o) || !has(things, x) || !in(since, 0, now) || !in(weight, 0, 99) || dockets.size() == 60) {
            return NONE;
        }
        dockets.add(new int[] {o, x, since, weight, 1, dockets.size()});
        return dockets.size() - 1;
    }

    List<int[]> line(int x) {
        List<int[]> line = new ArrayList<>();
        for (int[] d : dockets) {
            if (d[1] == x && d[4] == 1) {
                line.add(d);
            }
        }
        line.sort((a, b) -> a[3] != b[3] ? b[3] - a[3] : a[2] != b[2] ? a[2] - b[2] : a[5] - b[5]);
        return line;
    }

    int first(int x, int i) {
        List<int[]> line = line(x);
        return has(line, i) ? line.get(i)[5] : NONE;
    }

    int waits(int k, int n) {
        if (!has(dockets, k) || !in(n, 1, 100) || dockets.get(k)[4] == 0) {
            return NONE;
        }
        return line(dockets.get(k)[1]).indexOf(dockets.get(k)) / n;
    }

    int bombed(int o) {
        if (!has(persons, o)) {
            return NONE;
        }
        int n = 0;
        for (int[] d : dockets) {
            if (d[0] == o && d[4] == 1 && d[3] != 99) {
                d[3] = 99;
                n++;
            }
        }
        return n;
    }

    boolean seen(int x, int week, int n) {
        if (!has(things, x) || !in(week, 0, now) || !in(n, 1, 100000) || seenOnes.size() == 100) {
            return false;
        }
        seenOnes.add(new int[] {x, week, n});
        return true;
    }

    int falsely(int x) {
        if (!has(things, x)) {
            return NONE;
        }
        int most = 0;
        for (int[] s : seenOnes) {
            if (s[0] == x) {
                int left = 0;
                for (int[] a : markedMade) {
                    left += a[0] == x && names.get(a[1]) && a[2] <= s[1] ? a[3] : 0;
                }
                for (int[] b : markedBought) {
                    left -= b[0] == x && b[1] <= s[1] ? 1 : 0;
                }
                most = Math.max(most, s[2] - left);
            }
        }
        return most;
    }

    boolean rubbed(int cloth, int n, boolean tore) {
        if (!has(cloths, cloth) || !in(n, 1, 100000) || rubbedOnes.size() == 100) {
            return false;
        }
        rubbedOnes.add(new int[] {cloth, n, tore ? 1 : 0, now});
        return true;
    }

    boolean bench(int n) {
        if (in(n, 1, 1000)) {
            turns = n;
        }
        return in(n, 1, 1000);
    }

    int isTrue(int cloth, int t) {
        if (!has(cloths, cloth) || !in(t, 0, 499)) {
            return NONE;
        }
        int v = cloths.get(cloth)[1] * turns;
        int lowest = v - v / 10;
        int n = 0;
        boolean isFalse = false;
        boolean each = true;
        for (int[] r : rubbedOnes) {
            if (r[0] == cloth && r[3] <= t) {
                n++;
                isFalse |= r[2] == 1 && r[1] < lowest;
                each &= r[1] >= lowest;
            }
        }
        return isFalse ? 0 : n >= 2 && each ? 1 : 2;
    }

    boolean badTold(int told, int pieces) {
        return told < 0 || told >= 1 << makers.size() || Integer.bitCount(told) > 8 || !in(pieces, 1, 100000);
    }

    int needs(int told, int set, int n) {
        if (badTold(told, n) || set == 0 || (set | told) != told) {
            return NONE;
        }
        List<Integer> line = new ArrayList<>();
        int plant = 0;
        int hands = 0;
        for (int m = 0; m < makers.size(); m++) {
            if ((set & 1 << m) != 0) {
                line.add(m);
                plant += makers.get(m)[1];
            }
            if ((told & 1 << m) != 0) {
                hands += makers.get(m)[2];
            }
        }
        line.sort((a, b) -> makers.get(b)[3] - makers.get(a)[3]);
        int need = 0;
        int still = n;
        for (int m : line) {
            int does = Math.min(still, makers.get(m)[1]);
            still -= does;
            need += (int) Math.ceil(does / (double) makers.get(m)[3]);
        }
        return plant < n || need > hands ? -2 : need;
    }

    int fewest(int told, int n, int town) {
        if (badTold(told, n) || !in(town, -1, 7)) {
            return NONE;
        }
        List<int[]> found = new ArrayList<>();
        for (int set = 1; set < 4096; set++) {
            if ((set | told) == told && needs(told, set, n) >= 0) {
                boolean inTown = town == NONE;
                for (int m = 0; m < makers.size(); m++) {
                    inTown |= (set & 1 << m) != 0 && makers.get(m)[0] == town;
                }
                if (inTown) {
                    found.add(new int[] {needs(told, set, n), Integer.bitCount(set), set});
                }
            }
        }
        found.sort((a, b) -> a[0] != b[0] ? a[0] - b[0] : a[1] != b[1] ? a[1] - b[1] : a[2] - b[2]);
        return found.isEmpty() ? NONE : found.get(0)[2];
    }

    int loses(int m, int x) {
        if (!has(makers, m) || !has(things, x)) {
            return -1000000000;
        }
        int[] t = things.get(x);
        int cost = t[0] == 0 ? (int) Math.ceil(t[3] * (double) cloths.get(t[1])[2] / 36) : t[0] == 1 ? t[3] : 0;
        int work = (int) Math.ceil(makers.get(m)[4] / (double) makers.get(m)[3]);
        int paid = paid(x);
        int d = Math.max(0, last('d', x, NONE, now, now, NONE));
        return cost + work - (paid - paid * d / 100);
    }

    int beside(int i) {
        if (i < -1 || i >= orders.size()) {
            return NONE;
        }
        int n = 0;
        for (int x = 0; x < things.size(); x++) {
            boolean may = false;
            for (int m = 0; m < makers.size() && !may; m++) {
                may = last('b', x, m, now, now, i) == NONE;
            }
            n += may ? 1 : 0;
        }
        return n;
    }

    int check(int n) {
        if (n < 0 || n * 12L > tape.size()) {
            return -2;
        }
        List<Integer> told = new ArrayList<>();
        for (int i = 0; i < 12 * n; i += 4) {
            told.add(tape.get(i) << 24 | tape.get(i + 1) << 16 | tape.get(i + 2) << 8 | tape.get(i + 3));
        }
        tape.clear();
        List<Integer> right = new ArrayList<>();
        for (int x = 0; x < things.size(); x++) {
            for (int mark = 0; mark < 2; mark++) {
                if (shops.get(x)[mark] != 0) {
                    right.add(x);
                    right.add(mark);
                    right.add(shops.get(x)[mark]);
                }
            }
        }
        for (int i = 0; i < Math.max(told.size(), right.size()); i++) {
            if (i >= told.size() || i >= right.size() || !told.get(i).equals(right.get(i))) {
                return i;
            }
        }
        return NONE;
    }

    int look(int who, int what) {
        if (has(persons, who)) {
            return in(what, 0, 1) ? persons.get(who)[what] : NONE;
        }
        if (who >= 100 && has(makers, who - 100)) {
            return what == 0 ? made.get(who - 100) : has(cloths, what - 1) ? stores.get(who - 100)[what - 1] : NONE;
        }
        return NONE;
    }

    int count(int what) {
        int[] plain = {now, cloths.size(), joints.size(), things.size(), makers.size(), orders.size(), persons.size(),
            dockets.size(), seenOnes.size(), rubbedOnes.size(), tape.size()};
        if (in(what, 0, 10)) {
            return plain[what];
        }
        if (what >= 20 && has(orders, what - 20)) {
            return orders.get(what - 20).clauses.length;
        }
        if (what >= 100 && has(things, what - 100)) {
            return shops.get(what - 100)[0];
        }
        return what >= 200 && has(things, what - 200) ? shops.get(what - 200)[1] : NONE;
    }
}
