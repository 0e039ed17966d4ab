import java.lang.reflect.InvocationTargetException;
import java.lang.reflect.Method;
import java.util.ArrayList;
import java.util.Arrays;
import java.util.Collections;
import java.util.HashMap;
import java.util.List;
import java.util.Map;
import java.util.Random;

/** Long random runs, held against NaiveBoard call by call. The seeds are fixed: the runs are always the same. */
public final class AgainstNaiveTest {
    private static final int MOST_CALLS = 512;
    private static final Map<String, Method> OURS = methods(UtilityBoard.class);
    private static final Map<String, Method> NAIVE = methods(NaiveBoard.class);

    private final Random random;
    private final UtilityBoard board = new UtilityBoard();
    private final NaiveBoard naive = new NaiveBoard();
    private final List<String> calls = new ArrayList<>();
    private final int wildness;
    private final int mostPieces;
    private final boolean seldomBars;
    private String wrong = null;

    private AgainstNaiveTest(long seed, int mostPieces) {
        random = new Random(seed);
        wildness = random.nextInt(4) == 0 ? 4 : 40;
        seldomBars = flip();
        this.mostPieces = mostPieces;
    }

    public static void main(String[] args) {
        int runs = args.length > 0 ? Integer.parseInt(args[0]) : 1500;
        int bad = 0;
        long done = 0;
        Map<String, Integer> answers = new HashMap<>();
        for (int seed = 0; seed < runs && bad < 3; seed++) {
            AgainstNaiveTest run = new AgainstNaiveTest(seed, seed % 40 == 0 ? 9 : 6);
            run.go(answers);
            done += run.calls.size();
            if (run.wrong != null) {
                bad++;
                System.out.println("seed " + seed + ": " + run.wrong);
            }
        }
        if (args.length > 1) {
            answers.entrySet().stream().sorted(Map.Entry.comparingByKey()).forEach(System.out::println);
        }
        System.out.println(done + " calls held against the naive board, " + bad + " runs wrong");
        if (bad != 0) {
            System.exit(1);
        }
    }

    private static Map<String, Method> methods(Class<?> type) {
        Map<String, Method> byName = new HashMap<>();
        for (Method m : type.getDeclaredMethods()) {
            if (type != UtilityBoard.class || java.lang.reflect.Modifier.isPublic(m.getModifiers())) {
                m.setAccessible(true);
                byName.put(m.getName(), m);
            }
        }
        return byName;
    }

    private void go(Map<String, Integer> answers) {
        int focus = random.nextInt(7);
        found(answers);
        while (calls.size() < MOST_CALLS && wrong == null) {
            act(random.nextInt(100), calls.size() < 60 ? 0 : focus, answers);
        }
    }

    /** A land to begin with, so that few calls ask for what is not there. */
    private void found(Map<String, Integer> a) {
        for (int i = 0; i < 2 + random.nextInt(3); i++) {
            call(a, "cloth", 100 + random.nextInt(900), 1 + random.nextInt(20), 1 + random.nextInt(80));
        }
        for (int i = 0; i < 1 + random.nextInt(2); i++) {
            call(a, "drawing", 2 + random.nextInt(7));
        }
        for (int i = 0; i < 3 + random.nextInt(4); i++) {
            int kind = i % 3;
            call(a, "thing", kind, kind == 2 ? -1 : 0, random.nextInt(10), 1 + random.nextInt(90));
        }
        for (int i = 0; i < 2 + random.nextInt(5); i++) {
            call(a, "maker", random.nextInt(8), 1 + random.nextInt(900), random.nextInt(90), 1 + random.nextInt(20),
                random.nextInt(60));
            call(a, "yards", i, random.nextInt(2), 1 + random.nextInt(10000));
            call(a, "named", i, flip());
        }
        for (int i = 0; i < 2 + random.nextInt(3); i++) {
            call(a, "person", random.nextInt(1000));
        }
    }

    private void call(Map<String, Integer> answers, String name, Object... args) {
        if (wrong != null || calls.size() >= MOST_CALLS) {
            return;
        }
        calls.add(name + Arrays.toString(args));
        Object got = invoke(OURS.get(name), board, args);
        Object want = invoke(NAIVE.get(name), naive, args);
        String group = want instanceof Integer && (Integer) want >= 0 ? "0 or more" : String.valueOf(want);
        if (group.length() > 3 && group.startsWith("-")) {
            group = name.equals("order") ? group.substring(0, 2) + "..." : "below 0";
        }
        answers.merge(name + " -> " + group, 1, Integer::sum);
        if (!want.equals(got)) {
            wrong = calls.get(calls.size() - 1) + " answered " + got + ", due is " + want + " after " + calls;
        }
    }

    private static Object invoke(Method method, Object on, Object[] args) {
        try {
            return method.invoke(on, args);
        } catch (InvocationTargetException | IllegalAccessException e) {
            return "thrown: " + e.getCause();
        }
    }

    /** A number that is mostly within bounds, and else at or behind an edge. */
    private int pick(int low, int high) {
        if (random.nextInt(wildness) == 0) {
            int[] edges = {low - 1, high + 1, low, high, Integer.MIN_VALUE, Integer.MAX_VALUE, -1, 0};
            return edges[random.nextInt(edges.length)];
        }
        return low + (high > low ? random.nextInt(high - low + 1) : 0);
    }

    private int one(List<?> list) {
        return pick(0, list.size() - 1);
    }

    private boolean flip() {
        return random.nextBoolean();
    }

    private int week() {
        return random.nextInt(4) == 0 ? pick(0, 499) : pick(Math.max(0, naive.now - 2), Math.min(499, naive.now + 3));
    }

    private int noneOr(int value) {
        return random.nextInt(3) == 0 ? -1 : value;
    }

    private void act(int dice, int focus, Map<String, Integer> a) {
        if (dice < 30) {
            set(random.nextInt(16), a);
        } else if (dice < 40) {
            tellOrder(a);
        } else if (dice < 60) {
            ask(random.nextInt(20), a);
        } else {
            switch (focus) {
                case 0:
                    set(random.nextInt(16), a);
                    break;
                case 1:
                    pattern(a);
                    break;
                case 2:
                    chair(a);
                    break;
                case 3:
                    trade(a);
                    break;
                case 4:
                case 5:
                    tellOrder(a);
                    call(a, "number", pick(0, 5), one(naive.things), noneOr(one(naive.makers)), week(), week());
                    call(a, "why", one(naive.things), one(naive.makers), pick(0, 1));
                    call(a, "beside", noneOr(one(naive.orders)));
                    break;
                default:
                    int told = told();
                    call(a, "needs", told, random.nextInt(8) == 0 ? told() : told & random.nextInt(), pieces());
                    call(a, "fewest", told(), pieces(), noneOr(pick(0, 7)));
                    break;
            }
        }
    }

    private int told() {
        int all = (1 << naive.makers.size()) - 1;
        if (random.nextInt(12) == 0) {
            return random.nextInt();
        }
        return random.nextInt(4096) & all & (flip() ? random.nextInt() : -1);
    }

    private int pieces() {
        return flip() ? pick(1, 300) : pick(1, 100000);
    }

    private void set(int which, Map<String, Integer> a) {
        switch (which) {
            case 0:
                call(a, "goes");
                break;
            case 1:
                call(a, "cloth", pick(100, 999), pick(1, flip() ? 3 : 1000), pick(1, flip() ? 100 : 10000));
                break;
            case 2:
                call(a, "drawing", pick(2, 8));
                break;
            case 3:
                int kind = pick(0, 2);
                int of = kind == 0 ? one(naive.cloths) : kind == 1 ? one(naive.joints) : -1;
                call(a, "thing", kind, of, pick(0, 9), pick(1, flip() ? 200 : 10000));
                break;
            case 4:
                call(a, "maker", pick(0, 7), pick(1, flip() ? 60 : 10000), pick(0, flip() ? 20 : 1000),
                    pick(1, flip() ? 6 : 100), pick(0, flip() ? 50 : 10000));
                break;
            case 5:
                call(a, "named", one(naive.makers), random.nextInt(3) != 0);
                break;
            case 6:
            case 7:
                call(a, "yards", one(naive.makers), one(naive.cloths), pick(1, 10000));
                break;
            case 8:
                call(a, "person", flip() ? pick(0, 300) : pick(0, 1000000));
                break;
            case 9:
                call(a, "price", one(naive.things), flip() ? pick(1, 100) : pick(1, 100000));
                break;
            case 10:
                call(a, "rubbed", one(naive.cloths), flip() ? pick(1, 200) : pick(1, 100000), random.nextInt(4) == 0);
                break;
            case 11:
                call(a, "bench", flip() ? pick(1, 60) : pick(1, 1000));
                break;
            case 12:
                call(a, "docket", one(naive.persons), one(naive.things), pick(0, naive.now), pick(0, flip() ? 3 : 99));
                break;
            case 13:
                call(a, "seen", one(naive.things), pick(0, naive.now), flip() ? pick(1, 50) : pick(1, 100000));
                break;
            case 14:
                call(a, "makes", one(naive.makers), one(naive.things), flip() ? pick(1, 20) : pick(1, 10000), flip());
                break;
            default:
                call(a, "bombed", one(naive.persons));
                break;
        }
    }

    private void ask(int which, Map<String, Integer> a) {
        switch (which) {
            case 0:
            case 1:
            case 2:
            case 3:
                int asked = pick(0, 5);
                boolean none = asked == 2;
                int maker = none ? -1 : noneOr(one(naive.makers));
                call(a, "number", asked, none ? -1 : one(naive.things), maker, week(), week());
                break;
            case 4:
            case 5:
                call(a, "why", one(naive.things), one(naive.makers), pick(0, 1));
                break;
            case 6:
                call(a, "gone", one(naive.things), flip() ? pick(1, 10) : pick(1, 100000));
                break;
            case 7:
                call(a, "first", one(naive.things), pick(0, 3));
                break;
            case 8:
                call(a, "waits", one(naive.dockets), flip() ? pick(1, 3) : pick(1, 100));
                break;
            case 9:
                call(a, "falsely", one(naive.things));
                break;
            case 10:
                call(a, "isTrue", one(naive.cloths), week());
                break;
            case 11:
                call(a, "needs", told(), told(), pieces());
                break;
            case 12:
                call(a, "fewest", told(), pieces(), noneOr(pick(0, 7)));
                break;
            case 13:
                call(a, "loses", one(naive.makers), one(naive.things));
                break;
            case 14:
                call(a, "beside", noneOr(one(naive.orders)));
                break;
            case 15:
                checkShops(a);
                break;
            case 16:
                boolean ofPerson = flip();
                int who = ofPerson ? one(naive.persons) : 100 + one(naive.makers);
                call(a, "look", who, pick(0, ofPerson ? 1 : naive.cloths.size()));
                break;
            case 17:
                int[] from = {0, 20, 100, 200};
                int[] size = {10, naive.orders.size(), naive.things.size(), naive.things.size()};
                int part = random.nextInt(4);
                call(a, "count", pick(from[part], from[part] + size[part]));
                break;
            case 18:
                pattern(a);
                break;
            default:
                chair(a);
                break;
        }
    }

    private void pattern(Map<String, Integer> a) {
        int x = one(naive.things);
        for (int i = 0; i < 20 && !naive.coat(x); i++) {
            x = one(naive.things);
        }
        int width = flip() ? pick(40, 100) : pick(1, 200);
        if (!naive.coat(x) || naive.pieces.get(x).size() < mostPieces && random.nextInt(3) > 0) {
            int size = flip() ? 60 : 12;
            call(a, "piece", x, pick(1, size), pick(1, size));
            return;
        }
        List<Integer> order = new ArrayList<>();
        for (int i = 0; i < naive.pieces.get(x).size(); i++) {
            order.add(i);
        }
        if (flip()) {
            Collections.shuffle(order, random);
            if (random.nextInt(6) == 0 && !order.isEmpty()) {
                order.set(0, random.nextInt(256));
            }
            byte[] bytes = new byte[order.size()];
            for (int i = 0; i < bytes.length; i++) {
                bytes[i] = (byte) (int) order.get(i);
            }
            feedBytes(bytes, a);
            call(a, "laid", x, width, random.nextInt(8) == 0 ? pick(0, 20) : bytes.length);
        } else {
            for (int what = -1; what < order.size() + 1; what++) {
                call(a, "least", x, width, what);
            }
        }
    }

    private void chair(Map<String, Integer> a) {
        int d = one(naive.joints);
        if (!NaiveBoard.has(naive.joints, d)) {
            call(a, "drawing", pick(2, 5));
            return;
        }
        int joints = naive.joints.get(d);
        switch (random.nextInt(8)) {
            case 0:
            case 1:
            case 2:
            case 3:
                call(a, "stick", d, pick(0, joints - 1), pick(0, joints - 1), pick(0, 2));
                break;
            case 4:
                call(a, "load", d, pick(1, joints - 1), flip() ? pick(1, 50) : flip() ? pick(1, 130) : pick(1, 500));
                break;
            case 5:
                call(a, "bears", d);
                break;
            default:
                for (int what = -1; what < naive.sticks.get(d).size() + 1; what++) {
                    call(a, "cheapest", d, what);
                }
                break;
        }
    }

    private void trade(Map<String, Integer> a) {
        int x = one(naive.things);
        int o = one(naive.persons);
        switch (random.nextInt(9)) {
            case 0:
            case 1:
                call(a, "makes", one(naive.makers), x, random.nextInt(5) > 0 ? pick(1, 3) : pick(1, 10000), flip());
                break;
            case 2:
            case 3:
                call(a, "buys", o, x, flip());
                call(a, "look", o, pick(0, 1));
                break;
            case 4:
                call(a, "docket", o, x, pick(0, naive.now), pick(0, flip() ? 3 : 99));
                call(a, "first", x, pick(0, 3));
                break;
            case 5:
                call(a, "seen", x, pick(0, naive.now), pick(1, 30));
                call(a, "falsely", x);
                break;
            case 6:
                call(a, "goes");
                break;
            case 7:
                call(a, "waits", one(naive.dockets), pick(1, 3));
                call(a, "gone", x, pick(1, 10));
                break;
            default:
                checkShops(a);
                break;
        }
    }

    private void feedBytes(byte[] bytes, Map<String, Integer> a) {
        for (int i = 0; i < bytes.length; i += 20) {
            Object[] five = new Object[5];
            for (int j = 0; j < 5; j++) {
                int four = 0;
                for (int k = 0; k < 4; k++) {
                    int at = i + 4 * j + k;
                    int filler = random.nextInt(3) == 0 ? random.nextInt(256) : 0;
                    four = four << 8 | (at < bytes.length ? bytes[at] & 255 : filler);
                }
                five[j] = four;
            }
            call(a, "feed", five);
        }
    }

    private void checkShops(Map<String, Integer> a) {
        List<Integer> numbers = new ArrayList<>();
        for (int x = 0; x < naive.things.size(); x++) {
            for (int mark = 0; mark < 2; mark++) {
                if (naive.shops.get(x)[mark] != 0) {
                    Collections.addAll(numbers, x, mark, naive.shops.get(x)[mark]);
                }
            }
        }
        if (flip() && !numbers.isEmpty()) {
            numbers.set(random.nextInt(numbers.size()), random.nextInt(4));
        }
        int threes = numbers.size() / 3;
        if (random.nextInt(3) == 0) {
            threes = Math.max(0, threes + random.nextInt(3) - 1);
        }
        byte[] bytes = new byte[Math.min(400, 4 * numbers.size())];
        for (int i = 0; i < bytes.length; i++) {
            bytes[i] = (byte) (numbers.get(i / 4) >> 24 - i % 4 * 8);
        }
        feedBytes(bytes, a);
        call(a, "check", random.nextInt(15) == 0 ? pick(0, 34) : threes);
    }

    private void tellOrder(Map<String, Integer> a) {
        StringBuilder text = new StringBuilder();
        int clauses = 1 + random.nextInt(random.nextInt(5) == 0 ? 13 : 3);
        for (int i = 0; i < clauses; i++) {
            text.append(i > 0 ? ";" : "").append(clause());
        }
        if (random.nextInt(4) == 0) {
            spoil(text);
        }
        int length = Math.min(text.length(), 165);
        byte[] bytes = new byte[length];
        for (int i = 0; i < length; i++) {
            bytes[i] = (byte) text.charAt(i);
        }
        feedBytes(bytes, a);
        int from = random.nextInt(3) == 0 ? week() : random.nextInt(naive.now + 1);
        int to = random.nextInt(3) == 0 ? week() : 499;
        call(a, "order", from, to, random.nextInt(20) == 0 ? pick(1, 160) : length);
    }

    private void spoil(StringBuilder text) {
        String signs = "bmpcgdxwknqiatjh0123456789+-*/%<>=!()[]&|;. ?";
        for (int times = 1 + random.nextInt(2); times > 0 && text.length() > 0; times--) {
            int at = random.nextInt(text.length());
            char sign = signs.charAt(random.nextInt(signs.length()));
            switch (random.nextInt(4)) {
                case 0:
                    text.deleteCharAt(at);
                    break;
                case 1:
                    text.insert(at, sign);
                    break;
                case 2:
                    text.setCharAt(at, random.nextInt(8) == 0 ? (char) random.nextInt(256) : sign);
                    break;
                default:
                    text.setLength(at);
                    break;
            }
        }
    }

    private String clause() {
        char letter = "bbbmmmppccggddxx".charAt(random.nextInt(16));
        if (letter == 'b' && seldomBars && random.nextInt(5) > 0) {
            letter = 'm';
        }
        if (letter == 'x') {
            int orders = Math.max(2, Math.min(31, naive.orders.size() + 1));
            return "x" + number(orders) + "." + number(random.nextInt(9) == 0 ? 13 : 3);
        }
        int below = letter == 'd' ? 102 : random.nextInt(4) > 0 ? 9 : 99999;
        String n = letter == 'b' || letter == 'm' ? "" : number(below);
        return letter + n + "(" + condition(1 + random.nextInt(6)) + ")";
    }

    private String number(int below) {
        String n = Integer.toString(random.nextInt(below));
        return random.nextInt(30) == 0 ? "0" + n : n;
    }

    private String condition(int depth) {
        StringBuilder c = new StringBuilder(piece(depth));
        while (random.nextInt(4) == 0) {
            c.append(flip() ? "&" : "|").append(piece(depth));
        }
        return c.toString();
    }

    private String piece(int depth) {
        int dice = random.nextInt(6);
        if (depth > 0 && dice == 0) {
            return "!" + piece(depth - 1);
        }
        if (depth > 0 && dice == 1) {
            return "(" + condition(depth - 1) + ")";
        }
        return sum(depth) + "<>=".charAt(random.nextInt(3)) + sum(depth);
    }

    private String sum(int depth) {
        StringBuilder s = new StringBuilder(factor(depth));
        while (random.nextInt(3) == 0) {
            s.append("+-*/%".charAt(random.nextInt(5))).append(factor(depth));
        }
        return s.toString();
    }

    private String factor(int depth) {
        int dice = random.nextInt(7);
        if (depth > 0 && dice == 0) {
            return "[" + sum(depth - 1) + "]";
        }
        if (dice < 4) {
            return number(random.nextInt(4) == 0 ? 99999 : 4);
        }
        return "" + "wknqiatjh".charAt(random.nextInt(9));
    }
}
