/** Promises 22 to 26: entry, frame, list, about, count. */
public final class AskingTest {
    private AskingTest() {
    }

    public static void main(String[] args) {
        entries();
        frames();
        lists();
        spaces();
        counts();
        Check.finish("AskingTest");
    }

    private static void all(String what, String want, int... got) {
        StringBuilder s = new StringBuilder();
        for (int number : got) {
            s.append(number).append(' ');
        }
        Check.due(what, s.toString(), want);
    }

    private static void entry(String what, Pagewright x, int space, int address, String want) {
        all(what, want, x.entry(space, address, 0), x.entry(space, address, 1), x.entry(space, address, 2),
                x.entry(space, address, 3), x.entry(space, address, 4), x.entry(space, address, 5));
    }

    private static void frame(String what, Pagewright x, int f, String want) {
        all(what, want, x.frame(f, 0), x.frame(f, 1), x.frame(f, 2), x.frame(f, 3), x.frame(f, 4), x.frame(f, 5),
                x.frame(f, 6), x.frame(f, 7));
    }

    private static Pagewright some() {
        Pagewright x = new Pagewright();
        x.space(2);
        x.map(0, 0, 8, 3, -1, 0, false, false);
        x.map(0, 8, 4, 2, 1, 4, true, false);
        x.store(0, 0, 0, 40000);
        x.store(0, 0, 1, 2);
        x.reclaim(2);
        for (int a = 4; a < 8; a++) {
            x.store(0, 0, a, 10 + a);
        }
        x.join(0, 4);
        x.store(0, 0, 10, 5);
        return x;
    }

    private static void entries() {
        Pagewright x = some();
        entry("what is at a place", x, 0, 0, "3 2 -1 -1 0 0 ");
        entry("what is compressed", x, 0, 1, "3 2 -1 -1 10 0 ");
        entry("what is ABSENT", x, 0, 2, "3 0 -1 -1 -1 0 ");
        entry("what is PRESENT in a block", x, 0, 5, "3 1 1 1 -1 1 ");
        entry("what is a file's", x, 0, 10, "2 1 4 1 -1 0 ");
        entry("what is not mapped", x, 0, 31, "0 -1 -1 -1 -1 0 ");
        x.protect(0, 4, 4, 1);
        entry("what is not writable", x, 0, 5, "1 1 1 0 -1 0 ");
        x.end(0);
        entry("what a dead space has", x, 0, 5, "0 -1 -1 -1 -1 0 ");
    }

    private static void frames() {
        Pagewright x = some();
        // The access of address 4 handled the messages ahead of that, so that it got the frame 0 again.
        frame("a loose page", x, 1, "1 15 0 1 1 2 0 -1 ");
        frame("a cached one", x, 4, "2 5 0 1 1 2 1 16 ");
        frame("a free one", x, 23, "0 -1 -1 -1 -1 -1 -1 -1 ");
        x.sync(1);
        frame("a clean one", x, 4, "2 5 0 1 1 2 0 16 ");
        x.store(0, 0, 3, 14);
        x.merge(0, true);
        x.scan(5);
        frame("a merged one", x, x.entry(0, 4, 2), "1 14 0 1 2 2 1 -1 ");
        x.unmap(0, 10, 1);
        frame("a cached one that none has", x, 4, "2 5 0 1 0 2 0 16 ");
        x.unmap(0, 7, 1);
        frame("one that lingers", x, 3, "3 -1 -1 -1 -1 -1 -1 -1 ");
        x.handle(0);
        frame("that one behind it", x, 3, "0 -1 -1 -1 -1 -1 -1 -1 ");
        x.read(0, 0);
        x.reclaim(3);
        Check.due("the list of one that had its second look", x.frame(x.list(1, 0), 2), 1);
        Check.due("whether it is seen then", x.frame(x.list(1, 0), 3), 0);
    }

    private static void lists() {
        Pagewright x = some();
        Check.due("IDLE, the first one", x.list(0, 0), 0);
        Check.due("IDLE, the last one", x.list(0, 4), 4);
        Check.due("IDLE, behind it", x.list(0, 5), -1);
        Check.due("IDLE, far behind", x.list(0, Integer.MAX_VALUE), -1);
        Check.due("ACTIVE, none", x.list(1, 0), -1);
        x.reclaim(1);
        Check.due("ACTIVE, one of four", x.list(1, 1) == -1 ? 0 : 1, 1);
        Check.due("ACTIVE, behind them", x.list(1, 2), -1);
    }

    private static void spaces() {
        Pagewright x = some();
        x.adjust(0, -20);
        all("about it", "1 2 5 2 1 -13 ", x.about(0, 0), x.about(0, 1), x.about(0, 2), x.about(0, 3), x.about(0, 4),
                x.about(0, 5));
        x.end(0);
        all("about a dead one", "0 0 0 0 0 -20 ", x.about(0, 0), x.about(0, 1), x.about(0, 2), x.about(0, 3),
                x.about(0, 4), x.about(0, 5));
    }

    private static void counts() {
        Pagewright x = some();
        all("counts", "0 7 2 0 1 0 0 0 1 1 0 ", x.count(0), x.count(1), x.count(2), x.count(3), x.count(4), x.count(5),
                x.count(6), x.count(7), x.count(8), x.count(9), x.count(10));
        x.store(0, 0, 10, 6);
        Check.due("hits", x.count(0), 1);
        x.sync(1);
        Check.due("values written", x.count(5), 1);
        Check.due("messages that wait", x.count(10), 1);
        x.fork(0);
        x.store(0, 0, 4, 1);
        Check.due("copies", x.count(6), 1);
        x.reclaim(24);
        Check.due("pages evicted", x.count(2), 8);
        x.load(0, 0, 2);
        Check.due("refaults of what is loose", x.count(3), 0);
        x.read(1, 6);
        Check.due("refaults", x.count(3), x.list(1, 0) == Pagewright.NONE ? 0 : 1);
        Check.due("spaces killed", x.count(7), 0);
    }
}
