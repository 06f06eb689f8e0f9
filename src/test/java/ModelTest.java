import java.util.Random;

/** Long runs of calls, the same ones each time, on TreeFamily and on PlainFamily: all answers are the same. */
public final class ModelTest {
    private static final int RUNS = 6000;
    private static final int CALLS = 512;
    private static final int[] EDGES = {
        Integer.MIN_VALUE, Integer.MIN_VALUE + 1, -5, -4, -1, 0, 1, 3, 4, Integer.MAX_VALUE - 1, Integer.MAX_VALUE
    };

    private final Random random;
    private final TreeFamily tree = new TreeFamily();
    private final PlainFamily plain = new PlainFamily();
    private final int spread;
    private final int growth;
    private final boolean isOneOrder;
    private final int seed;

    private ModelTest(int seed) {
        this.seed = seed;
        random = new Random(seed);
        spread = new int[] {6, 40, 100, 300, 2000}[random.nextInt(5)];
        growth = random.nextInt(100);
        isOneOrder = random.nextInt(3) > 0;
    }

    public static void main(String[] args) {
        for (int seed = 1; seed <= RUNS && Check.failures() < 5; seed++) {
            new ModelTest(seed).run();
        }
        Check.end();
    }

    private void run() {
        int order = random.nextInt(3);
        for (int m = 0; m < 3; m++) {
            make(m, random.nextInt(4), isOneOrder ? order : random.nextInt(3));
        }
        for (int call = 0; call < CALLS && Check.failures() < 5; call++) {
            if (random.nextInt(100) < growth) {
                grow();
            } else {
                any(order);
            }
            if (random.nextInt(8) == 0) {
                compareAll();
            }
        }
        compareAll();
    }

    private int map() {
        return random.nextInt(60) == 0 ? random.nextInt(9) - 3 : random.nextInt(3);
    }

    private int key() {
        return random.nextInt(20) == 0 ? EDGES[random.nextInt(EDGES.length)] : random.nextInt(spread) - spread / 3;
    }

    private int value() {
        return random.nextInt(20) == 0 ? EDGES[random.nextInt(EDGES.length)] : random.nextInt(1000);
    }

    private int upTo(int limit) {
        return random.nextInt(30) == 0 ? random.nextInt(3 * limit) - limit : random.nextInt(limit);
    }

    private void same(String what, Check.Call got, Check.Call due) {
        Check.same("seed " + seed + ", " + what, Check.answer(due), Check.answer(got));
    }

    private void make(int m, int kind, int order) {
        same("make(" + m + ", " + kind + ", " + order + ")",
                () -> { tree.make(m, kind, order); return ""; },
                () -> { plain.make(m, kind, order); return ""; });
    }

    private void grow() {
        int m = map();
        int key = key();
        int value = value();
        same("put(" + m + ", " + key + ", " + value + ")",
                () -> tree.put(m, key, value), () -> plain.put(m, key, value));
    }

    private void any(int order) {
        int m = map();
        int key = key();
        int other = key();
        boolean flag = random.nextBoolean();
        int four = upTo(4);
        int three = upTo(3);
        int second = map();
        String call = "(" + m + ", " + key + ", " + other + ", " + flag + ", " + four + ", " + three + ", "
                + second + ")";
        switch (random.nextInt(24)) {
            case 0 -> {
                if (random.nextInt(6) == 0) {
                    make(m, four, isOneOrder ? order : three);
                }
            }
            case 1, 2 -> same("remove" + call, () -> tree.remove(m, key), () -> plain.remove(m, key));
            case 3 -> same("get" + call, () -> tree.get(m, key), () -> plain.get(m, key));
            case 4 -> same("near" + call, () -> tree.near(m, four, key), () -> plain.near(m, four, key));
            case 5 -> same("size" + call, () -> tree.size(m), () -> plain.size(m));
            case 6 -> same("rank" + call, () -> tree.rank(m, key), () -> plain.rank(m, key));
            case 7 -> same("select" + call, () -> tree.select(m, key), () -> plain.select(m, key));
            case 8 -> same("sum" + call, () -> tree.sum(m, key), () -> plain.sum(m, key));
            case 9 -> same("range" + call,
                    () -> { tree.range(m, four, key, other); return ""; },
                    () -> { plain.range(m, four, key, other); return ""; });
            case 10 -> same("within" + call, () -> tree.within(m, three), () -> plain.within(m, three));
            case 11, 12 -> same("putWithin" + call,
                    () -> tree.putWithin(m, key, other), () -> plain.putWithin(m, key, other));
            case 13 -> same("poll" + call, () -> tree.poll(m, flag), () -> plain.poll(m, flag));
            case 14 -> walk(m, flag);
            case 15 -> next(m);
            case 16 -> drop(m);
            case 17 -> join(m, second, three);
            case 18 -> join(m, second, 0);
            case 19 -> {
                if (random.nextInt(4) == 0) {
                    same("split" + call, () -> tree.split(m, key, second), () -> plain.split(m, key, second));
                }
            }
            case 20 -> same("changes" + call, () -> tree.changes(m), () -> plain.changes(m));
            case 21 -> same("audit" + call, () -> tree.audit(m), () -> plain.audit(m));
            default -> grow();
        }
    }

    private void join(int m, int second, int op) {
        same("join(" + m + ", " + second + ", " + op + ")",
                () -> tree.join(m, second, op), () -> plain.join(m, second, op));
    }

    private void walk(int m, boolean back) {
        same("iterate(" + m + ", " + back + ")",
                () -> { tree.iterate(m, back); return ""; },
                () -> { plain.iterate(m, back); return ""; });
        for (int i = random.nextInt(12); i > 0; i--) {
            next(m);
            if (random.nextInt(3) == 0) {
                drop(m);
            }
        }
    }

    private void next(int m) {
        same("next(" + m + ")", () -> tree.next(m), () -> plain.next(m));
    }

    private void drop(int m) {
        same("drop(" + m + ")",
                () -> { tree.drop(m); return ""; },
                () -> { plain.drop(m); return ""; });
    }

    private void compareAll() {
        for (int m = 0; m < 3; m++) {
            int map = m;
            same("all: size", () -> tree.size(map), () -> plain.size(map));
            same("all: changes", () -> tree.changes(map), () -> plain.changes(map));
            same("all: audit", () -> tree.audit(map), () -> true);
            for (int what = 0; what < 3; what++) {
                int w = what;
                same("all: within", () -> tree.within(map, w), () -> plain.within(map, w));
            }
            for (int i = 0; i < plain.size(m); i++) {
                int key = plain.select(m, i);
                int place = i;
                same("all: select", () -> tree.select(map, place), () -> key);
                same("all: get", () -> tree.get(map, key), () -> plain.get(map, key));
                same("all: rank", () -> tree.rank(map, key), () -> place);
                same("all: sum", () -> tree.sum(map, key), () -> plain.sum(map, key));
            }
        }
    }
}
