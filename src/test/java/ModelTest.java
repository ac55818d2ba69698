import java.util.ArrayDeque;
import java.util.ArrayList;
import java.util.List;
import java.util.Random;

/**
 * Long runs of calls that the class and the Model must answer alike, from seeds that are the same each time. Every
 * second run has all 512 calls; the others are shorter, and behind their last call all is asked.
 */
public final class ModelTest {
    private static final int RUNS = 4000;
    private static final int SHORTER = 384;

    private interface Call {
        int on(Pagewright x);
    }

    private interface Answer {
        int get();
    }

    private final Random random;
    private final int length;
    private final Pagewright x = new Pagewright();
    private final Model m = new Model();
    private final int values;
    private final int spread;
    private final int groups;
    private final boolean limited;
    private final int ending;
    private final ArrayDeque<Runnable> script = new ArrayDeque<>();
    private final List<Call> calls = new ArrayList<>();
    private int lastSpace;
    private int lastAddress;
    private String call;
    private int got;
    private int want;

    private ModelTest(long seed) {
        random = new Random(seed);
        length = seed % 2 == 0 ? Check.CALLS : 1 + random.nextInt(SHORTER);
        values = random.nextInt(4);
        spread = 4 + random.nextInt(29);
        groups = 1 + random.nextInt(3);
        limited = random.nextBoolean();
        ending = random.nextInt(40);
    }

    public static void main(String[] args) {
        long[] reached = new long[8];
        for (int seed = 0; seed < RUNS; seed++) {
            ModelTest test = new ModelTest(seed);
            if (!test.run()) {
                System.out.println("seed " + seed + " call " + test.calls.size());
                Check.finish("ModelTest");
            }
            for (int i = 0; i < 8; i++) {
                reached[i] += test.m.counts[i];
            }
        }
        for (int i = 0; i < 8; i++) {
            Check.due("whether count(" + i + ") was ever above 0", reached[i] > 0 ? 1 : 0, 1);
        }
        Check.finish("ModelTest");
    }

    /** Tells whether all was as due. */
    private boolean run() {
        while (calls.size() < length) {
            one();
            if (got != want) {
                Check.due(call, got, want);
                return false;
            }
        }
        return length == Check.CALLS
                || Check.same("behind " + call, Check.state(this::again, length), m.state());
    }

    /** A new object that had all these calls. */
    private Pagewright again() {
        Pagewright other = new Pagewright();
        for (Call each : calls) {
            guard(() -> each.on(other));
        }
        return other;
    }

    private void both(String text, Call onClass, Answer onModel) {
        call = text;
        calls.add(onClass);
        got = guard(() -> onClass.on(x));
        want = guard(onModel);
    }

    private int value() {
        switch (values == 3 ? random.nextInt(3) : values) {
            case 0:
                return random.nextInt(4);
            case 1:
                return 98 + random.nextInt(4);
            default:
                return 9998 + random.nextInt(4);
        }
    }

    private int address() {
        return random.nextInt(spread);
    }

    private int count(int from) {
        return 1 + random.nextInt(Math.min(32 - from, random.nextInt(4) == 0 ? 32 : 8));
    }

    private void one() {
        if (!script.isEmpty()) {
            script.remove().run();
            return;
        }
        int spaces = m.spaces.size();
        int pick = random.nextInt(100);
        if (spaces == 0 || pick < 2) {
            int group = random.nextInt(groups);
            both("space(" + group + ")", x -> x.space(group), () -> m.space(group));
            return;
        }
        int space = random.nextInt(spaces);
        if (pick < 50) {
            boolean again = random.nextInt(3) == 0;
            access(again ? lastSpace : space, again ? lastAddress : address());
        } else if (pick < 52) {
            planBlock(space);
        } else if (pick < 76) {
            mapping(space, pick);
        } else {
            others(space, pick);
        }
    }

    /** Four addresses that can be joined are rare among chance calls, so these are made ready for it. */
    private void planBlock(int space) {
        int first = 4 * random.nextInt((spread + 3) / 4);
        script.add(() -> {
            both("unmap(" + space + ", " + first + ", 4)",
                    x -> x.unmap(space, first, 4), () -> m.unmap(space, first, 4));
        });
        script.add(() -> {
            both("map(" + space + ", " + first + ", 4, 3, -1, 0, false, false)",
                    x -> x.map(space, first, 4, 3, -1, 0, false, false),
                    () -> m.map(space, first, 4, 3, -1, 0, false, false));
        });
        for (int i = 0; i < 4; i++) {
            int a = first + i;
            script.add(() -> access(space, a));
        }
        script.add(() -> join(space, first));
    }

    private void join(int space, int a) {
        both("join(" + space + ", " + a + ")", x -> x.join(space, a), () -> m.join(space, a));
    }

    private void access(int space, int a) {
        lastSpace = space;
        lastAddress = a;
        int p = random.nextInt(2);
        int v = random.nextInt(3) == 0 ? -1 : value();
        both((v < 0 ? "load(" : "store(") + p + ", " + space + ", " + a + ", " + v + ")",
                x -> v < 0 ? x.load(p, space, a) : x.store(p, space, a, v), () -> m.access(p, space, a, v));
    }

    private void mapping(int space, int pick) {
        int from = address();
        int n = count(from);
        if (pick < 62) {
            int rights = random.nextInt(4) == 0 ? 1 + random.nextInt(3) : 3;
            int index = random.nextInt(8);
            int file = random.nextInt(3) == 0 && index + n <= 8 ? random.nextInt(3) : -1;
            boolean shared = random.nextBoolean();
            boolean grows = random.nextInt(3) == 0;
            both("map(" + space + ", " + from + ", " + n + ", " + rights + ", " + file + ", " + index + ", " + shared
                    + ", " + grows + ")",
                    x -> x.map(space, from, n, rights, file, index, shared, grows),
                    () -> m.map(space, from, n, rights, file, index, shared, grows));
        } else if (pick < 66) {
            both("unmap(" + space + ", " + from + ", " + n + ")",
                    x -> x.unmap(space, from, n), () -> m.unmap(space, from, n));
        } else if (pick < 69) {
            int rights = random.nextInt(2) == 0 ? 3 : 1 + random.nextInt(3);
            both("protect(" + space + ", " + from + ", " + n + ", " + rights + ")",
                    x -> x.protect(space, from, n, rights), () -> m.protect(space, from, n, rights));
        } else if (pick < 73) {
            int some = Math.min(n, 1 + random.nextInt(3));
            int to = random.nextInt(33 - some);
            both("move(" + space + ", " + from + ", " + some + ", " + to + ")",
                    x -> x.move(space, from, some, to), () -> m.move(space, from, some, to));
        } else if (pick < 75 || random.nextInt(40) > ending) {
            both("fork(" + space + ")", x -> x.fork(space), () -> m.fork(space));
        } else {
            both("end(" + space + ")", x -> x.end(space), () -> m.end(space));
        }
    }

    private void others(int space, int pick) {
        int file = random.nextInt(3);
        int index = random.nextInt(8);
        int v = value();
        int n = 1 + random.nextInt(random.nextInt(4) == 0 ? 24 : 4);
        if (pick < 80) {
            int w = random.nextBoolean() ? v : -1;
            both("file(" + file + ", " + index + ", " + w + ")",
                    x -> w < 0 ? x.read(file, index) : x.write(file, index, w), () -> m.file(file, index, w));
        } else if (pick < 82) {
            both("sync(" + file + ")", x -> x.sync(file), () -> m.sync(file));
        } else if (pick < 85) {
            both("reclaim(" + n + ")", x -> x.reclaim(n), () -> m.reclaim(n));
        } else if (pick < 87) {
            int p = random.nextInt(2);
            both("handle(" + p + ")", x -> x.handle(p), () -> m.handle(p));
        } else if (pick < 90) {
            join(space, 4 * random.nextInt((spread + 3) / 4));
        } else if (pick < 92) {
            boolean is = random.nextInt(3) > 0;
            both("merge(" + space + ", " + is + ")", x -> {
                x.merge(space, is);
                return 0;
            }, () -> {
                m.merge(space, is);
                return 0;
            });
        } else if (pick < 97) {
            int addresses = 1 + random.nextInt(random.nextInt(3) == 0 ? 192 : 32);
            both("scan(" + addresses + ")", x -> x.scan(addresses), () -> m.scan(addresses));
        } else if (pick < 98 || !limited) {
            int by = random.nextInt(101) - 50;
            both("adjust(" + space + ", " + by + ")", x -> x.adjust(space, by), () -> m.adjust(space, by));
        } else {
            int group = random.nextInt(3);
            int pages = random.nextInt(3) == 0 ? -1 : 1 + random.nextInt(random.nextInt(3) == 0 ? 24 : 6);
            both("limit(" + group + ", " + pages + ")", x -> x.limit(group, pages), () -> m.limit(group, pages));
        }
    }

    /** What the call answers, or a number that no call answers, if it throws IllegalStateException. */
    private static int guard(Answer answer) {
        try {
            return answer.get();
        } catch (IllegalStateException e) {
            return Check.THROWN;
        }
    }
}
