import java.util.ArrayDeque;
import java.util.Random;

/** Long runs of calls that the class and the Model must answer alike, from seeds that are the same each time. */
public final class ModelTest {
    private static final int RUNS = 3000;
    private static final int CALLS = 512;

    private final Random random;
    private final Pagewright x = new Pagewright();
    private final Model m = new Model();
    private final int values;
    private final int spread;
    private final int groups;
    private final boolean limited;
    private final int ending;
    private final ArrayDeque<Runnable> script = new ArrayDeque<>();
    private int lastSpace;
    private int lastAddress;
    private String call;
    private long got;
    private long want;

    private ModelTest(long seed) {
        random = new Random(seed);
        values = random.nextInt(4);
        spread = 4 + random.nextInt(29);
        groups = 1 + random.nextInt(3);
        limited = random.nextBoolean();
        ending = random.nextInt(40);
    }

    public static void main(String[] args) {
        long[] reached = new long[8];
        for (int seed = 0; seed < RUNS; seed++) {
            ModelTest test = new ModelTest(seed);
            if (!test.run(seed)) {
                System.exit(1);
            }
            for (int i = 0; i < 8; i++) {
                reached[i] += test.x.count(i);
            }
        }
        for (int i = 0; i < 8; i++) {
            Check.due("whether count(" + i + ") was ever above 0", reached[i] > 0 ? 1 : 0, 1);
        }
        Check.finish("ModelTest");
    }

    private boolean run(int seed) {
        for (int i = 0; i < CALLS; i++) {
            one();
            if (got != want) {
                System.out.println("seed " + seed + " call " + i);
                Check.due(call, got, want);
                return false;
            }
            if (i % 16 == 0 || i == CALLS - 1) {
                String is = Check.state(x);
                String due = m.state();
                if (!is.equals(due)) {
                    System.out.println("seed " + seed + " call " + i);
                    Check.due("the state behind " + call, is, due);
                    return false;
                }
            }
        }
        return true;
    }

    private int value() {
        switch (values == 3 ? random.nextInt(3) : values) {
            case 0:
                return random.nextInt(4);
            case 1:
                return 98 + random.nextInt(4);
            default:
                return 9998 + random.nextInt(4);
        }
    }

    private int address() {
        return random.nextInt(spread);
    }

    private int count(int from) {
        return 1 + random.nextInt(Math.min(32 - from, random.nextInt(4) == 0 ? 32 : 8));
    }

    private void one() {
        if (!script.isEmpty()) {
            script.remove().run();
            return;
        }
        int spaces = m.spaces.size();
        int pick = random.nextInt(100);
        if (spaces == 0 || pick < 2) {
            int group = random.nextInt(groups);
            call = "space(" + group + ")";
            got = guard(() -> x.space(group));
            want = guard(() -> m.space(group));
            return;
        }
        int space = random.nextInt(spaces);
        if (pick < 50) {
            boolean again = random.nextInt(3) == 0;
            access(again ? lastSpace : space, again ? lastAddress : address());
        } else if (pick < 52) {
            planBlock(space);
        } else if (pick < 76) {
            mapping(space, pick);
        } else {
            others(space, pick);
        }
    }

    /** Four addresses that can be joined are rare among chance calls, so these are made ready for it. */
    private void planBlock(int space) {
        int first = 4 * random.nextInt((spread + 3) / 4);
        script.add(() -> {
            call = "unmap(" + space + ", " + first + ", 4)";
            got = guard(() -> x.unmap(space, first, 4));
            want = guard(() -> m.unmap(space, first, 4));
        });
        script.add(() -> {
            call = "map(" + space + ", " + first + ", 4, 3, -1, 0, false, false)";
            got = guard(() -> x.map(space, first, 4, 3, -1, 0, false, false));
            want = guard(() -> m.map(space, first, 4, 3, -1, 0, false, false));
        });
        for (int i = 0; i < 4; i++) {
            int a = first + i;
            script.add(() -> access(space, a));
        }
        script.add(() -> join(space, first));
    }

    private void join(int space, int a) {
        call = "join(" + space + ", " + a + ")";
        got = guard(() -> x.join(space, a));
        want = guard(() -> m.join(space, a));
    }

    private void access(int space, int a) {
        lastSpace = space;
        lastAddress = a;
        int p = random.nextInt(2);
        int v = random.nextInt(3) == 0 ? -1 : value();
        call = (v < 0 ? "load(" : "store(") + p + ", " + space + ", " + a + ", " + v + ")";
        got = guard(() -> v < 0 ? x.load(p, space, a) : x.store(p, space, a, v));
        want = guard(() -> m.access(p, space, a, v));
    }

    private void mapping(int space, int pick) {
        int from = address();
        int n = count(from);
        if (pick < 62) {
            int rights = random.nextInt(4) == 0 ? 1 + random.nextInt(3) : 3;
            int index = random.nextInt(8);
            int file = random.nextInt(3) == 0 && index + n <= 8 ? random.nextInt(3) : -1;
            boolean shared = random.nextBoolean();
            boolean grows = random.nextInt(3) == 0;
            call = "map(" + space + ", " + from + ", " + n + ", " + rights + ", " + file + ", " + index + ", " + shared
                    + ", " + grows + ")";
            got = guard(() -> x.map(space, from, n, rights, file, index, shared, grows));
            want = guard(() -> m.map(space, from, n, rights, file, index, shared, grows));
        } else if (pick < 66) {
            call = "unmap(" + space + ", " + from + ", " + n + ")";
            got = guard(() -> x.unmap(space, from, n));
            want = guard(() -> m.unmap(space, from, n));
        } else if (pick < 69) {
            int rights = random.nextInt(2) == 0 ? 3 : 1 + random.nextInt(3);
            call = "protect(" + space + ", " + from + ", " + n + ", " + rights + ")";
            got = guard(() -> x.protect(space, from, n, rights));
            want = guard(() -> m.protect(space, from, n, rights));
        } else if (pick < 73) {
            int some = Math.min(n, 1 + random.nextInt(3));
            int to = random.nextInt(33 - some);
            call = "move(" + space + ", " + from + ", " + some + ", " + to + ")";
            got = guard(() -> x.move(space, from, some, to));
            want = guard(() -> m.move(space, from, some, to));
        } else if (pick < 75 || random.nextInt(40) > ending) {
            call = "fork(" + space + ")";
            got = guard(() -> x.fork(space));
            want = guard(() -> m.fork(space));
        } else {
            call = "end(" + space + ")";
            got = guard(() -> x.end(space));
            want = guard(() -> m.end(space));
        }
    }

    private void others(int space, int pick) {
        int file = random.nextInt(3);
        int index = random.nextInt(8);
        int v = value();
        int n = 1 + random.nextInt(random.nextInt(4) == 0 ? 24 : 4);
        if (pick < 80) {
            int w = random.nextBoolean() ? v : -1;
            call = "file(" + file + ", " + index + ", " + w + ")";
            got = guard(() -> w < 0 ? x.read(file, index) : x.write(file, index, w));
            want = guard(() -> m.file(file, index, w));
        } else if (pick < 82) {
            call = "sync(" + file + ")";
            got = x.sync(file);
            want = m.sync(file);
        } else if (pick < 85) {
            call = "reclaim(" + n + ")";
            got = x.reclaim(n);
            want = m.reclaim(n);
        } else if (pick < 87) {
            int p = random.nextInt(2);
            call = "handle(" + p + ")";
            got = x.handle(p);
            want = m.handle(p);
        } else if (pick < 90) {
            join(space, 4 * random.nextInt((spread + 3) / 4));
        } else if (pick < 92) {
            boolean is = random.nextInt(3) > 0;
            call = "merge(" + space + ", " + is + ")";
            x.merge(space, is);
            m.merge(space, is);
            got = 0;
            want = 0;
        } else if (pick < 97) {
            int addresses = 1 + random.nextInt(random.nextInt(3) == 0 ? 192 : 32);
            call = "scan(" + addresses + ")";
            got = x.scan(addresses);
            want = m.scan(addresses);
        } else if (pick < 98 || !limited) {
            int by = random.nextInt(101) - 50;
            call = "adjust(" + space + ", " + by + ")";
            got = x.adjust(space, by);
            want = m.adjust(space, by);
        } else {
            int group = random.nextInt(3);
            int pages = random.nextInt(3) == 0 ? -1 : 1 + random.nextInt(random.nextInt(3) == 0 ? 24 : 6);
            call = "limit(" + group + ", " + pages + ")";
            got = x.limit(group, pages);
            want = m.limit(group, pages);
        }
    }

    private interface Answer {
        int get();
    }

    /** What the call answers, or a number that no call answers, if it throws IllegalStateException. */
    private static long guard(Answer answer) {
        try {
            return answer.get();
        } catch (IllegalStateException e) {
            return Long.MIN_VALUE;
        }
    }
}
