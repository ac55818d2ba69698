/** What each call refuses: which exception, in the order in which that is tested, and that nothing changes by it. */
public final class RefusalsTest {
    private static final int LOW = Integer.MIN_VALUE;
    private static final int HIGH = Integer.MAX_VALUE;

    private RefusalsTest() {
    }

    public static void main(String[] args) {
        Pagewright x = busy();
        spaces(x);
        maps(x);
        mapsOfFiles(x);
        stretches(x);
        moves(x);
        accesses(x);
        files(x);
        others(x);
        asking(x);
        nothingThere();
        Check.finish("RefusalsTest");
    }

    /** Space 0 lives and space 1 is dead; there are pages, records, messages, a block and a limit. */
    private static Pagewright busy() {
        Pagewright x = new Pagewright();
        x.space(0);
        x.space(1);
        x.map(0, 0, 8, 3, -1, 0, false, true);
        x.map(0, 16, 4, 3, 1, 4, true, true);
        x.map(1, 0, 4, 3, -1, 0, false, false);
        for (int a = 0; a < 4; a++) {
            x.store(0, 0, a, 10 * a);
            x.store(1, 1, a, 20000);
        }
        x.reclaim(3);
        for (int a = 0; a < 4; a++) {
            x.store(0, 0, a, 10 * a);
        }
        x.store(0, 0, 16, 5);
        x.join(0, 0);
        x.merge(0, true);
        x.scan(3);
        x.end(1);
        x.limit(2, 3);
        return x;
    }

    private static void spaces(Pagewright x) {
        Check.badArgument("space(-1)", x, () -> x.space(-1));
        Check.badArgument("space(3)", x, () -> x.space(3));
        int[] none = {-1, 2, 6, LOW, HIGH};
        for (int space : none) {
            Check.noSpace("fork", x, () -> x.fork(space));
            Check.noSpace("end", x, () -> x.end(space));
            Check.noSpace("adjust", x, () -> x.adjust(space, 51));
            Check.noSpace("merge", x, () -> x.merge(space, true));
            Check.noSpace("join", x, () -> x.join(space, -1));
            Check.noSpace("map", x, () -> x.map(space, -1, 0, 0, 5, 9, false, false));
            Check.noSpace("unmap", x, () -> x.unmap(space, -1, 0));
            Check.noSpace("protect", x, () -> x.protect(space, -1, 0, 0));
            Check.noSpace("move", x, () -> x.move(space, -1, 0, -1));
            Check.noSpace("load", x, () -> x.load(0, space, -1));
            Check.noSpace("store", x, () -> x.store(0, space, -1, -1));
            Check.noSpace("entry", x, () -> x.entry(space, -1, -1));
            Check.noSpace("about", x, () -> x.about(space, -1));
        }
        Check.badState("fork of a dead one", x, () -> x.fork(1));
        Check.badState("end of a dead one", x, () -> x.end(1));
        Check.badArgument("adjust by 51", x, () -> x.adjust(0, 51));
        Check.badArgument("adjust by -51", x, () -> x.adjust(0, -51));
        Check.badArgument("adjust of a dead one by -51", x, () -> x.adjust(1, LOW));
        Check.badArgument("limit(-1, 1)", x, () -> x.limit(-1, 1));
        Check.badArgument("limit(3, 1)", x, () -> x.limit(3, 1));
        Check.badArgument("limit(0, 0)", x, () -> x.limit(0, 0));
        Check.badArgument("limit(0, 25)", x, () -> x.limit(0, 25));
        Check.badArgument("limit(0, -2)", x, () -> x.limit(0, -2));
    }

    private static void maps(Pagewright x) {
        int[][] stretches = {{-1, 1}, {32, 1}, {20, 0}, {20, -1}, {20, 33}, {20, 13}, {31, 2}, {20, HIGH}, {HIGH, 1},
            {HIGH, HIGH}, {LOW, LOW}};
        for (int[] s : stretches) {
            Check.badArgument("map", x, () -> x.map(0, s[0], s[1], 3, -1, 0, false, false));
            Check.badArgument("map of a dead one", x, () -> x.map(1, s[0], s[1], 3, -1, 0, false, false));
        }
        int[] rights = {0, 4, -1, HIGH, LOW};
        for (int right : rights) {
            Check.badArgument("map with rights", x, () -> x.map(0, 24, 1, right, -1, 0, false, false));
            Check.badArgument("map of what is mapped with rights", x, () -> x.map(0, 0, 1, right, -1, 0, false, false));
        }
        Check.badState("map of a dead one", x, () -> x.map(1, 24, 1, 3, -1, 0, false, false));
        Check.badState("map of what is mapped", x, () -> x.map(0, 7, 1, 3, -1, 0, false, false));
        Check.badState("map, the last one mapped", x, () -> x.map(0, 8, 9, 3, -1, 0, false, false));
        Check.badState("map, the first one mapped", x, () -> x.map(0, 19, 9, 3, -1, 0, false, false));
    }

    private static void mapsOfFiles(Pagewright x) {
        Check.badArgument("map of file -2", x, () -> x.map(0, 24, 1, 3, -2, 0, false, false));
        Check.badArgument("map of file 3", x, () -> x.map(0, 24, 1, 3, 3, 0, false, false));
        Check.badArgument("map of index -1", x, () -> x.map(0, 24, 1, 3, 0, -1, false, false));
        Check.badArgument("map of index 8", x, () -> x.map(0, 24, 1, 3, 0, 8, false, false));
        Check.badArgument("map up to index 8", x, () -> x.map(0, 24, 3, 3, 0, 6, false, false));
        Check.badArgument("map of nine indices", x, () -> x.map(0, 20, 9, 3, 0, 0, false, false));
        Check.badArgument("map of the greatest index", x, () -> x.map(0, 24, 3, 3, 0, HIGH, false, false));
        Check.badArgument("map of the least index", x, () -> x.map(0, 24, 3, 3, 0, LOW, false, false));
        Pagewright y = new Pagewright();
        y.space(0);
        Check.due("map of nothing with any index", y.map(0, 24, 3, 3, -1, HIGH, false, false), 1);
        Check.due("map beside it with another", y.map(0, 27, 3, 3, -1, LOW, true, false), 1);
    }

    private static void stretches(Pagewright x) {
        int[][] stretches = {{-1, 1}, {32, 1}, {0, 0}, {0, -1}, {0, 33}, {31, 2}, {1, 32}, {0, HIGH}, {HIGH, HIGH},
            {LOW, 1}, {5, LOW}};
        for (int[] s : stretches) {
            for (int space = 0; space <= 1; space++) {
                int in = space;
                Check.badArgument("unmap", x, () -> x.unmap(in, s[0], s[1]));
                Check.badArgument("protect", x, () -> x.protect(in, s[0], s[1], 3));
                Check.badArgument("move", x, () -> x.move(in, s[0], s[1], 0));
            }
        }
        Check.badArgument("protect with rights 0", x, () -> x.protect(0, 0, 1, 0));
        Check.badArgument("protect with rights 4", x, () -> x.protect(1, 0, 1, 4));
        Check.badState("unmap of a dead one", x, () -> x.unmap(1, 0, 1));
        Check.badState("protect of a dead one", x, () -> x.protect(1, 0, 1, 1));
    }

    private static void moves(Pagewright x) {
        Check.badArgument("move to -1", x, () -> x.move(0, 0, 1, -1));
        Check.badArgument("move to 32", x, () -> x.move(0, 0, 1, 32));
        Check.badArgument("move beyond 31", x, () -> x.move(0, 0, 3, 30));
        Check.badArgument("move to the greatest", x, () -> x.move(0, 0, 3, HIGH));
        Check.badArgument("move of a dead one to 32", x, () -> x.move(1, 0, 1, 32));
        Check.badState("move of a dead one", x, () -> x.move(1, 0, 1, 8));
        Check.badState("move of one that is not mapped", x, () -> x.move(0, 7, 2, 24));
        Check.badState("move onto one that is mapped", x, () -> x.move(0, 4, 2, 15));
        Check.badState("move onto itself", x, () -> x.move(0, 4, 1, 4));
        Check.badState("move onto some of these", x, () -> x.move(0, 4, 4, 7));
    }

    private static void accesses(Pagewright x) {
        int[] processors = {-1, 2, LOW, HIGH};
        for (int processor : processors) {
            Check.noSpace("load by no processor", x, () -> x.load(processor, 0, 32));
            Check.noSpace("store by no processor", x, () -> x.store(processor, 1, 32, -1));
            Check.noSpace("handle of no processor", x, () -> x.handle(processor));
        }
        int[] addresses = {-1, 32, LOW, HIGH};
        for (int address : addresses) {
            for (int space = 0; space <= 1; space++) {
                int in = space;
                Check.badArgument("load", x, () -> x.load(0, in, address));
                Check.badArgument("store", x, () -> x.store(0, in, address, 1));
            }
        }
        int[] values = {-1, 100000, LOW, HIGH};
        for (int value : values) {
            Check.badArgument("store of a value", x, () -> x.store(0, 0, 0, value));
            Check.badArgument("store of a value in a dead one", x, () -> x.store(0, 1, 0, value));
            Check.badArgument("write of a value", x, () -> x.write(0, 0, value));
        }
        Check.badState("load in a dead one", x, () -> x.load(0, 1, 0));
        Check.badState("store in a dead one", x, () -> x.store(1, 1, 0, 1));
    }

    private static void files(Pagewright x) {
        int[][] files = {{-1, 0}, {3, 0}, {0, -1}, {0, 8}, {LOW, HIGH}, {HIGH, LOW}};
        for (int[] f : files) {
            Check.badArgument("read", x, () -> x.read(f[0], f[1]));
            Check.badArgument("write", x, () -> x.write(f[0], f[1], 1));
            Check.badArgument("disk", x, () -> x.disk(f[0], f[1]));
        }
        Check.badArgument("sync(-1)", x, () -> x.sync(-1));
        Check.badArgument("sync(3)", x, () -> x.sync(3));
    }

    private static void others(Pagewright x) {
        int[] pages = {0, -1, 25, LOW, HIGH};
        for (int number : pages) {
            Check.badArgument("reclaim", x, () -> x.reclaim(number));
        }
        int[] addresses = {-4, -1, 1, 2, 3, 29, 32, LOW, HIGH};
        for (int address : addresses) {
            Check.badArgument("join", x, () -> x.join(0, address));
            Check.badArgument("join in a dead one", x, () -> x.join(1, address));
        }
        Check.badState("join of what is one", x, () -> x.join(0, 0));
        Check.badState("join of what cannot be one", x, () -> x.join(0, 4));
        Check.badState("join in a dead one", x, () -> x.join(1, 0));
        int[] scans = {0, -1, 193, LOW, HIGH};
        for (int number : scans) {
            Check.badArgument("scan", x, () -> x.scan(number));
        }
    }

    private static void asking(Pagewright x) {
        int[] addresses = {-1, 32, LOW, HIGH};
        for (int address : addresses) {
            Check.badArgument("entry of an address", x, () -> x.entry(0, address, 0));
        }
        int[] whats = {-1, 6, LOW, HIGH};
        for (int what : whats) {
            Check.badArgument("entry", x, () -> x.entry(0, 0, what));
            Check.badArgument("entry in a dead one", x, () -> x.entry(1, 0, what));
            Check.badArgument("about", x, () -> x.about(0, what));
            Check.badArgument("about a dead one", x, () -> x.about(1, what));
        }
        Check.badArgument("frame(-1, 0)", x, () -> x.frame(-1, 0));
        Check.badArgument("frame(24, 0)", x, () -> x.frame(24, 0));
        Check.badArgument("frame(0, -1)", x, () -> x.frame(0, -1));
        Check.badArgument("frame(23, 8)", x, () -> x.frame(23, 8));
        Check.badArgument("list(-1, 0)", x, () -> x.list(-1, 0));
        Check.badArgument("list(2, 0)", x, () -> x.list(2, 0));
        Check.badArgument("list(0, -1)", x, () -> x.list(0, -1));
        Check.badArgument("list(1, least)", x, () -> x.list(1, LOW));
        Check.badArgument("count(-1)", x, () -> x.count(-1));
        Check.badArgument("count(11)", x, () -> x.count(11));
        Check.badArgument("count(greatest)", x, () -> x.count(HIGH));
    }

    private static void nothingThere() {
        Pagewright x = new Pagewright();
        Check.noSpace("load of a new object", x, () -> x.load(0, 0, 0));
        Check.noSpace("merge of a new object", x, () -> x.merge(0, false));
        Check.badArgument("map with a first one that is right, and a file that is not", with(x),
                () -> x.map(0, 0, 1, 3, 7, 0, false, false));
    }

    private static Pagewright with(Pagewright x) {
        x.space(0);
        return x;
    }
}
