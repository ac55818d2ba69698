import java.util.function.Supplier;

/** Promises 22 to 26, sentence by sentence: the last values allowed, the first ones not allowed, empty and full. */
public final class AskEdgesTest {
    private static final int LOW = Integer.MIN_VALUE;
    private static final int HIGH = Integer.MAX_VALUE;
    private static final int[] NO_SPACES = {-1, 3, 6, LOW, HIGH};
    private static final Supplier<Pagewright> BUSY = Check::busy;

    private AskEdgesTest() {
    }

    public static void main(String[] args) {
        entries();
        entriesNone();
        entriesRefused();
        frames();
        framesNone();
        framesRefused();
        lists();
        abouts();
        aboutsRefused();
        counts();
        countsMore();
        countsRefused();
        asking();
        Check.finish("AskEdgesTest");
    }

    private static Pagewright six() {
        Pagewright x = new Pagewright();
        for (int i = 0; i < 6; i++) {
            x.space(0);
        }
        x.map(5, 0, 32, 3, -1, 0, false, false);
        x.map(0, 0, 1, 1, -1, 0, false, false);
        return x;
    }

    private static void entries() {
        Check.promise(22, "`space`: a space");
        Pagewright x = six();
        Check.due("rights in the space 5", x.entry(5, 0, 0), 3);
        Check.due("rights in the space 0", x.entry(0, 0, 0), 1);
        Check.promise(22, "`address`: 0 to 31");
        x.protect(5, 31, 1, 2);
        Check.due("rights of 31", x.entry(5, 31, 0), 2);
        Check.due("rights of 30", x.entry(5, 30, 0), 3);
        Check.due("rights of 0", x.entry(5, 0, 0), 3);
        Check.promise(22, "`what`: 0 its rights, 0 if it is not mapped");
        Check.due("rights of what is not mapped", x.entry(0, 31, 0), 0);
        Check.promise(22, "1 ABSENT to OUT");
        Pagewright y = Check.withSpace(5, 50000);
        y.reclaim(2);
        y.load(0, 0, 4);
        Check.due("of what was not used", y.entry(0, 3, 1), 0);
        Check.due("of what was", y.entry(0, 4, 1), 1);
        Check.due("of what was evicted", y.entry(0, 0, 1), 2);
        Check.promise(22, "2 the frame of its page");
        Check.due("the lowest one", y.entry(0, 4, 2), 0);
        Pagewright full = Check.withSpace(new int[24]);
        Check.due("the highest one", full.entry(0, 23, 2), 23);
        Check.promise(22, "3 whether it is writable, 1 or 0");
        Check.due("behind a load", y.entry(0, 4, 3), 0);
        y.store(0, 0, 4, 1);
        Check.due("behind a store", y.entry(0, 4, 3), 1);
        Check.promise(22, "4 the place of its record, 10 if it is compressed");
        Check.due("the lowest place", y.entry(0, 1, 4), 0);
        Check.due("compressed", y.entry(0, 0, 4), 10);
        int[] large = new int[10];
        for (int i = 0; i < 10; i++) {
            large[i] = 50000;
        }
        Pagewright z = Check.withSpace(large);
        z.reclaim(10);
        boolean[] taken = new boolean[10];
        for (int a = 0; a < 10; a++) {
            int place = z.entry(0, a, 4);
            boolean isOne = place >= 0 && place < 10 && !taken[place];
            Check.due("whether a place is 0 to 9, and no other's", isOne ? 1 : 0, 1);
            taken[Math.floorMod(place, 10)] = true;
        }
        Check.promise(22, "5 whether it is in a block, 1 or 0");
        Pagewright block = Check.withSpace(1, 2, 3, 4, 5, 6, 7, 8);
        Check.due("ahead of joining", block.entry(0, 4, 5), 0);
        block.join(0, 4);
        int[] in = {0, 0, 0, 0, 1, 1, 1, 1, 0};
        for (int a = 0; a < in.length; a++) {
            Check.due("whether " + a + " is in it", block.entry(0, a, 5), in[a]);
        }
    }

    private static void entriesNone() {
        Check.promise(22, "NONE for 1 if it is not mapped, for 2 and 3 if it is not PRESENT, for 4 if it is not OUT.");
        Pagewright x = Check.withSpace(5, 6);
        x.unmap(0, 9, 1);
        x.reclaim(1);
        int out = x.entry(0, 0, 1) == 2 ? 0 : 1;
        int[][] want = {
            {9, 0, -1, -1, -1, -1, 0},
            {8, 3, 0, -1, -1, -1, 0},
            {out, 3, 2, -1, -1, 10, 0},
            {1 - out, 3, 1, x.entry(0, 1 - out, 2), 1, -1, 0},
        };
        for (int[] each : want) {
            for (int what = 0; what <= 5; what++) {
                Check.due("entry(0, " + each[0] + ", " + what + ")", x.entry(0, each[0], what), each[1 + what]);
            }
        }
        x.load(0, 0, out);
        Check.due("the place of one that was OUT, and is PRESENT", x.entry(0, out, 4), -1);
        x.end(0);
        for (int what = 0; what <= 5; what++) {
            Check.due("of a dead one, " + what, x.entry(0, 0, what), what == 0 || what == 5 ? 0 : -1);
        }
    }

    private static void entriesRefused() {
        Check.promise(22, "Throws `IndexOutOfBoundsException` if there is no such space");
        for (int space : NO_SPACES) {
            Check.noSpace("entry of the space " + space, BUSY, x -> x.entry(space, 0, 0));
            Check.noSpace("entry of no space, and nothing", BUSY, x -> x.entry(space, 32, 6));
        }
        Check.promise(22, "Throws `IllegalArgumentException` if address or what is out of range");
        for (int address : new int[] {-1, 32, LOW, HIGH}) {
            Check.badArgument("entry of " + address, BUSY, x -> x.entry(0, address, 0));
            Check.badArgument("entry of " + address + " of a dead one", BUSY, x -> x.entry(1, address, 5));
        }
        for (int what : new int[] {-1, 6, LOW, HIGH}) {
            Check.badArgument("entry, " + what, BUSY, x -> x.entry(0, 0, what));
            Check.badArgument("entry of a dead one, " + what, BUSY, x -> x.entry(1, 31, what));
        }
    }

    private static void frames() {
        Check.promise(23, "`frame`: 0 to 23");
        int[] values = new int[24];
        for (int i = 0; i < 24; i++) {
            values[i] = 100 + i;
        }
        Pagewright full = Check.withSpace(values);
        Check.due("the value of 0", full.frame(0, 1), 100);
        Check.due("the value of 23", full.frame(23, 1), 123);
        Check.promise(23, "`what`: 0 0 free, 1 a loose page, 2 a cached one, 3 lingers");
        Pagewright x = Check.withSpace(5, 6);
        x.read(2, 7);
        Check.due("free", x.frame(23, 0), 0);
        Check.due("loose", x.frame(0, 0), 1);
        Check.due("cached", x.frame(2, 0), 2);
        x.unmap(0, 0, 1);
        Check.due("lingers", x.frame(0, 0), 3);
        x.handle(0);
        Check.due("free behind that", x.frame(0, 0), 0);
        Check.promise(23, "1 the value");
        Check.due("of the loose one", x.frame(1, 1), 6);
        x.write(2, 7, 99999);
        Check.due("of the cached one", x.frame(2, 1), 99999);
        Check.promise(23, "2 the list");
        Check.due("IDLE", x.frame(1, 2), 0);
        Pagewright y = Check.withSpace(5, 6, 7);
        y.reclaim(1);
        // 0 and 1 went to ACTIVE; 0 came back as there were more; 2 went, 1 came back; 0 was evicted.
        Check.due("IDLE", y.frame(1, 2), 0);
        Check.due("ACTIVE", y.frame(2, 2), 1);
        Check.promise(23, "3 whether it is seen, 1 or 0");
        Check.due("not seen", y.frame(1, 3), 0);
        y.load(0, 0, 1);
        Check.due("seen", y.frame(1, 3), 1);
        Check.promise(23, "4 how many entries have it");
        Check.due("none", x.frame(2, 4), 0);
        Check.due("one", y.frame(1, 4), 1);
        for (int i = 1; i < 6; i++) {
            y.fork(0);
            Check.due("one more", y.frame(1, 4), 1 + i);
        }
        Check.promise(23, "5 the group");
        for (int group = 0; group <= 2; group++) {
            Pagewright z = new Pagewright();
            z.space(group);
            z.map(0, 0, 1, 3, 1, 0, false, false);
            z.store(0, 0, 0, 1);
            Check.due("of a cached one", z.frame(0, 5), group);
            Check.due("of a loose one", z.frame(1, 5), group);
        }
        Check.promise(23, "6 whether it is merged, or, for a cached one, dirty, 1 or 0");
        Check.due("dirty", x.frame(2, 6), 1);
        x.sync(2);
        Check.due("clean", x.frame(2, 6), 0);
        Check.due("not merged", x.frame(1, 6), 0);
        x.map(0, 0, 1, 3, -1, 0, false, false);
        x.store(0, 0, 0, 6);
        x.merge(0, true);
        x.scan(2);
        Check.due("merged", x.frame(0, 6), 1);
        Check.promise(23, "7 10 times the file, and the index");
        Check.due("the last one", x.frame(2, 7), 27);
        x.read(0, 0);
        Check.due("the first one", x.frame(3, 7), 0);
    }

    private static void framesNone() {
        Check.promise(23, "NONE for 1 to 7 if there is no page, for 7 also if it is a loose one.");
        Pagewright x = Check.withSpace(5, 6);
        x.read(0, 0);
        x.unmap(0, 1, 1);
        for (int what = 1; what <= 7; what++) {
            Check.due("of a free one, " + what, x.frame(23, what), -1);
            Check.due("of one that lingers, " + what, x.frame(1, what), -1);
            Check.due("whether it is none of a cached one, " + what, x.frame(2, what) == -1 ? 1 : 0, 0);
            Check.due("whether it is none of a loose one, " + what, x.frame(0, what) == -1 ? 1 : 0, what == 7 ? 1 : 0);
        }
    }

    private static void framesRefused() {
        Check.promise(23, "Throws `IllegalArgumentException` if frame or what is out of range");
        for (int frame : new int[] {-1, 24, LOW, HIGH}) {
            Check.badArgument("frame(" + frame + ", 0)", BUSY, x -> x.frame(frame, 0));
            Check.badArgument("frame(" + frame + ", 7)", BUSY, x -> x.frame(frame, 7));
        }
        for (int what : new int[] {-1, 8, LOW, HIGH}) {
            Check.badArgument("frame(0, " + what + ")", BUSY, x -> x.frame(0, what));
            Check.badArgument("frame of a free one, " + what, BUSY, x -> x.frame(23, what));
        }
    }

    private static void lists() {
        Check.promise(24, "`list`: IDLE or ACTIVE");
        Pagewright x = Check.withSpace(1, 2, 3, 4);
        x.reclaim(1);
        Check.due("the first one of IDLE", x.list(Pagewright.IDLE, 0), 1);
        Check.due("the first one of ACTIVE", x.list(Pagewright.ACTIVE, 0), 2);
        Check.promise(24, "`place`: from 0");
        Check.due("the second one of ACTIVE", x.list(1, 1), 3);
        Check.promise(24, "Returns its frame, NONE if there are not so many.");
        Check.due("behind one", x.list(0, 1), -1);
        Check.due("behind two", x.list(1, 2), -1);
        Check.due("far behind", x.list(0, HIGH), -1);
        Check.due("of none", new Pagewright().list(0, 0), -1);
        Check.due("of none", new Pagewright().list(1, 0), -1);
        Pagewright full = Check.withSpace(new int[24]);
        Check.due("the last one of 24", full.list(0, 23), 23);
        Check.due("behind 24", full.list(0, 24), -1);
        Check.promise(24, "Returns a page of a list, in its order.");
        for (int place = 0; place < 24; place++) {
            Check.due("of 24", full.list(0, place), place);
        }
        // The one at the head goes, and comes again in the same frame, behind the others.
        full.unmap(0, 0, 1);
        full.load(0, 0, 23);
        full.load(0, 0, 24);
        Check.due("the last one of 24 then", full.list(0, 23), 0);
        Check.due("the first one of 24 then", full.list(0, 0), 1);
        Check.promise(24, "Throws `IllegalArgumentException` if list is out of range, or place is below 0");
        for (int list : new int[] {-1, 2, LOW, HIGH}) {
            Check.badArgument("list(" + list + ", 0)", BUSY, q -> q.list(list, 0));
            Check.badArgument("list(" + list + ", 24)", BUSY, q -> q.list(list, 24));
        }
        for (int place : new int[] {-1, LOW}) {
            Check.badArgument("list(0, " + place + ")", BUSY, q -> q.list(0, place));
            Check.badArgument("list(1, " + place + ")", BUSY, q -> q.list(1, place));
        }
    }

    private static void abouts() {
        Check.promise(25, "`space`: a space");
        Pagewright x = six();
        Check.due("regions of the space 5", x.about(5, 1), 1);
        Check.due("regions of the space 4", x.about(4, 1), 0);
        Check.due("regions of the space 0", x.about(0, 1), 1);
        Check.promise(25, "`what`: 0 whether it lives, 1 or 0");
        Check.due("lives", x.about(5, 0), 1);
        x.end(5);
        Check.due("is dead", x.about(5, 0), 0);
        Check.promise(25, "1 how many regions it has");
        Check.due("of a dead one", x.about(5, 1), 0);
        Pagewright y = new Pagewright();
        y.space(0);
        Check.due("none", y.about(0, 1), 0);
        for (int a = 0; a < 32; a++) {
            y.map(0, a, 1, 3, -1, 0, false, a % 2 == 0);
        }
        Check.due("as many as can be", y.about(0, 1), 32);
        y.unmap(0, 0, 32);
        y.map(0, 0, 32, 3, -1, 0, false, false);
        Check.due("one of all", y.about(0, 1), 1);
        Check.promise(25, "2 how many entries are PRESENT");
        Check.due("none", y.about(0, 2), 0);
        for (int a = 0; a < 24; a++) {
            y.load(0, 0, a);
        }
        Check.due("one in each frame", y.about(0, 2), 24);
        y.merge(0, true);
        y.scan(24);
        for (int a = 24; a < 32; a++) {
            y.load(0, 0, a);
        }
        Check.due("all of them", y.about(0, 2), 32);
        Check.promise(25, "3 how many are OUT");
        Check.due("none", y.about(0, 3), 0);
        y.scan(8);
        y.reclaim(1);
        Check.due("all of them, by one page", y.about(0, 3), 32);
        Check.due("how many are PRESENT then", y.about(0, 2), 0);
        Check.promise(25, "4 how many blocks it has");
        Check.due("none", y.about(0, 4), 0);
        Pagewright z = Check.withSpace(new int[24]);
        for (int a = 0; a < 24; a += 4) {
            z.join(0, a);
        }
        Check.due("as many as there are frames for", z.about(0, 4), 6);
        Check.promise(25, "5 its score");
        Check.due("of one that has pages", z.about(0, 5), 24);
        z.adjust(0, 50);
        Check.due("the greatest adjusted", z.about(0, 5), 74);
        z.adjust(0, -50);
        Check.due("the least adjusted", z.about(0, 5), -26);
        Check.due("of one that has records alone", y.about(0, 5), 32);
        Check.promise(25, "Returns the number.");
        Check.due("of one that has nothing", six().about(3, 5), 0);
    }

    private static void aboutsRefused() {
        Check.promise(25, "Throws `IndexOutOfBoundsException` if there is no such space");
        for (int space : NO_SPACES) {
            Check.noSpace("about the space " + space, BUSY, x -> x.about(space, 0));
            Check.noSpace("about no space, nothing", BUSY, x -> x.about(space, 6));
        }
        Check.promise(25, "Throws `IllegalArgumentException` if what is out of range");
        for (int what : new int[] {-1, 6, LOW, HIGH}) {
            Check.badArgument("about, " + what, BUSY, x -> x.about(0, what));
            Check.badArgument("about a dead one, " + what, BUSY, x -> x.about(1, what));
        }
    }

    private static void counts() {
        Check.promise(26, "`what`: 0 hits; 1 misses");
        Pagewright x = Check.withSpace();
        x.load(0, 0, 0);
        Check.due("hits", x.count(0), 0);
        Check.due("misses", x.count(1), 1);
        x.load(0, 0, 0);
        x.load(0, 0, 0);
        Check.due("hits", x.count(0), 2);
        Check.due("misses", x.count(1), 1);
        x.unmap(0, 31, 1);
        x.load(0, 0, 31);
        x.protect(0, 30, 1, 1);
        x.store(0, 0, 30, 1);
        x.read(0, 0);
        Check.due("hits behind NOT_MAPPED, NO_RIGHT, and a call for a file", x.count(0), 2);
        Check.due("misses behind them", x.count(1), 1);
        Check.promise(26, "2 pages evicted");
        Check.due("none", x.count(2), 0);
        x.reclaim(2);
        Check.due("a loose one and a cached one", x.count(2), 2);
        Check.promise(26, "3 refaults; 4 values read from the disk");
        Check.due("refaults", x.count(3), 0);
        Check.due("values read", x.count(4), 1);
        x.read(1, 1);
        x.read(1, 1);
        Check.due("values read, as a file's second time is none", x.count(4), 2);
        x.load(0, 0, 0);
        Check.due("values read, as a loose one is none", x.count(4), 2);
        Pagewright y = new Pagewright();
        y.read(0, 0);
        y.reclaim(1);
        y.read(0, 0);
        Check.due("a refault", y.count(3), 1);
        Check.promise(26, "5 values written to it");
        Check.due("none", y.count(5), 0);
        y.write(0, 0, 0);
        y.write(0, 1, 0);
        y.sync(0);
        Check.due("two by sync", y.count(5), 2);
        y.write(0, 0, 5);
        y.reclaim(2);
        Check.due("one by an eviction", y.count(5), 3);
    }

    private static void countsMore() {
        Check.promise(26, "6 new pages that came as copies of a value of another page");
        Pagewright x = Check.withSpace(5);
        x.reclaim(1);
        x.load(0, 0, 0);
        Check.due("not of a record", x.count(6), 0);
        x.fork(0);
        x.store(0, 0, 0, 6);
        Check.due("of a page that a fork has too", x.count(6), 1);
        x.store(1, 0, 0, 7);
        Check.due("not when the page is its own", x.count(6), 1);
        Pagewright y = new Pagewright();
        y.space(0);
        y.map(0, 0, 2, 3, 1, 0, false, false);
        y.store(0, 0, 0, 5);
        Check.due("of a cached page that was read for it", y.count(6), 1);
        y.load(0, 0, 1);
        y.store(0, 0, 1, 5);
        Check.due("of a cached page that it had", y.count(6), 2);
        Check.promise(26, "7 spaces killed, not those that were ended");
        y.end(0);
        Check.due("ended", y.count(7), 0);
        Pagewright z = killedTwice();
        Check.due("two killed", z.count(7), 2);
        Check.promise(26, "8 how much of the store is used; 9 how many places are");
        Pagewright w = Check.withSpace(1, 100, 10000);
        Check.due("the store, none", w.count(8), 0);
        Check.due("places, none", w.count(9), 0);
        w.reclaim(3);
        Check.due("the store, by one and two", w.count(8), 3);
        Check.due("places, by one", w.count(9), 1);
        int[] values = new int[16];
        for (int i = 0; i < 10; i++) {
            values[i] = 20000;
        }
        Pagewright full = Check.withSpace(values);
        full.reclaim(24);
        Check.due("the store, six of eight", full.count(8), 6);
        Check.due("places, all", full.count(9), 10);
        full.store(0, 0, 20, 1);
        full.store(0, 0, 21, 1);
        full.reclaim(2);
        Check.due("the store, all", full.count(8), 8);
        Check.promise(26, "10 messages that wait");
        Check.due("none", new Pagewright().count(10), 0);
        Pagewright m = Check.withSpace(1, 2, 3, 4, 5);
        for (int a = 0; a < 5; a++) {
            m.load(1, 0, a);
        }
        m.end(0);
        Check.due("as many as both caches hold", m.count(10), 8);
        m.handle(1);
        Check.due("of one of them", m.count(10), 4);
        Check.promise(26, "Returns how many.");
        for (int what = 0; what <= 10; what++) {
            Check.due("count(" + what + ") of a new object", new Pagewright().count(what), 0);
        }
    }

    /** Pages of two groups, each of which is the only one of its group, has no room, and is needed away. */
    private static Pagewright killedTwice() {
        Pagewright x = new Pagewright();
        x.space(0);
        x.space(1);
        x.space(2);
        for (int i = 0; i < 3; i++) {
            x.map(i, 0, 16, 3, -1, 0, false, false);
        }
        for (int a = 0; a < 10; a++) {
            x.store(0, 0, a, 70000);
        }
        x.reclaim(10);
        for (int group = 1; group <= 2; group++) {
            x.limit(group, 1);
            x.store(0, group, 0, 70000);
            Check.due("to store a second one", x.store(0, group, 1, 1), Pagewright.KILLED);
        }
        return x;
    }

    private static void countsRefused() {
        Check.promise(26, "Throws `IllegalArgumentException` if what is out of range");
        for (int what : new int[] {-1, 11, LOW, HIGH}) {
            Check.badArgument("count(" + what + ")", BUSY, x -> x.count(what));
            Check.badArgument("count(" + what + ") of a new object", Pagewright::new, x -> x.count(what));
        }
    }

    private static void asking() {
        // To ask changes nothing: all is asked of an object that was asked all before, by parts.
        Check.promise(26, "Counts.");
        Check.same("asked twice", Check.state(() -> {
            Pagewright x = Check.busy();
            for (int n = 0; n < 64; n++) {
                x.entry(n % 3, n % 32, n % 6);
                x.frame(n % 24, n % 8);
                x.list(n % 2, n % 13);
                x.about(n % 3, n % 6);
                x.count(n % 11);
            }
            return x;
        }, 400), Check.state(BUSY, 80));
        Check.promise(22, "Returns a number of an address.");
        Check.due("of the last one, the last number", Check.busy().entry(2, 31, 5), 0);
        Check.promise(23, "Returns a number of a frame.");
        Check.due("of the last one, the last number", Check.busy().frame(23, 7), -1);
        Check.promise(25, "Returns a number of a space.");
        Check.due("of the last one, the last number", Check.busy().about(2, 5), 2);
    }
}
