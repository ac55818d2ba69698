/** Promises 1 to 10: a new object, space, map, unmap, protect, move, fork, end, adjust, limit. */
public final class SpacesTest {
    private SpacesTest() {
    }

    public static void main(String[] args) {
        aNewObject();
        spaces();
        maps();
        unmaps();
        protects();
        moves();
        forks();
        ends();
        adjusts();
        limits();
        Check.finish("SpacesTest");
    }

    private static void aNewObject() {
        Pagewright x = new Pagewright();
        for (int what = 0; what <= 10; what++) {
            Check.due("count(" + what + ") of a new object", x.count(what), 0);
        }
        for (int frame = 0; frame < 24; frame++) {
            Check.due("frame(" + frame + ", 0) of a new object", x.frame(frame, 0), 0);
            Check.due("frame(" + frame + ", 1) of a new object", x.frame(frame, 1), -1);
        }
        Check.due("list(IDLE, 0) of a new object", x.list(0, 0), -1);
        Check.due("list(ACTIVE, 0) of a new object", x.list(1, 0), -1);
        Check.due("disk(2, 7) of a new object", x.disk(2, 7), 0);
        Check.noSpace("about(0, 0) of a new object", x, on -> on.about(0, 0));
        // No group has a limit: one of them can have all frames.
        x.space(1);
        x.map(0, 0, 32, 3, -1, 0, false, false);
        for (int a = 0; a < 24; a++) {
            x.store(0, 0, a, 1);
        }
        Check.due("pages evicted for 24 pages of one group", x.count(2), 0);
    }

    private static void spaces() {
        Pagewright x = new Pagewright();
        for (int i = 0; i < 6; i++) {
            Check.due("space, the number", x.space(i % 3), i);
        }
        Check.due("about(5, 0) of a new space", x.about(5, 0), 1);
        Check.due("about(5, 1) of a new space", x.about(5, 1), 0);
        Check.due("about(5, 5) of a new space", x.about(5, 5), 0);
        Check.badState("a seventh space", x, on -> on.space(0));
        x.end(2);
        Check.badState("a seventh space, though one is dead", x, on -> on.space(0));
        x.map(4, 0, 1, 3, -1, 0, false, false);
        x.store(0, 4, 0, 1);
        Check.due("the group of a page of space 4", x.frame(0, 5), 1);
    }

    private static void maps() {
        Pagewright x = new Pagewright();
        x.space(0);
        Check.due("map of all", x.map(0, 0, 32, 3, -1, 99, true, false), 1);
        x.unmap(0, 0, 32);
        Check.due("map of the last one", x.map(0, 31, 1, 3, -1, 0, false, false), 1);
        Check.due("map beside it, alike but for sharing of nothing", x.map(0, 30, 1, 3, -1, 5, true, false), 1);
        Check.due("map beside it, that grows", x.map(0, 29, 1, 3, -1, 0, false, true), 2);
        Check.due("map beside it, with other rights", x.map(0, 28, 1, 1, -1, 0, false, true), 3);
        Check.due("map of a file", x.map(0, 0, 3, 3, 1, 2, false, false), 4);
        Check.due("map of the file's next index", x.map(0, 3, 1, 3, 1, 5, false, false), 4);
        Check.due("map of the same index again", x.map(0, 4, 1, 3, 1, 5, false, false), 5);
        Check.due("map of the next index, shared", x.map(0, 5, 1, 3, 1, 6, true, false), 6);
        Check.due("map of the next index of another file", x.map(0, 6, 1, 3, 2, 7, true, false), 7);
        Check.due("map of all indices", x.map(0, 8, 8, 3, 0, 0, true, false), 8);
        Check.due("rights of what is mapped", x.entry(0, 28, 0), 1);
        Check.due("the entry of what is mapped", x.entry(0, 28, 1), 0);
        Check.due("rights of what is not", x.entry(0, 7, 0), 0);
    }

    private static void unmaps() {
        Pagewright x = new Pagewright();
        x.space(0);
        x.map(0, 2, 4, 3, -1, 0, false, false);
        x.map(0, 10, 1, 3, 0, 0, true, false);
        x.store(0, 0, 2, 5);
        x.store(0, 0, 10, 6);
        Check.due("unmap, of which some are mapped", x.unmap(0, 0, 4), 2);
        Check.due("the loose page, gone but in a cache", x.frame(0, 0), 3);
        Check.due("messages that wait", x.count(10), 1);
        Check.due("unmap of none", x.unmap(0, 0, 4), 0);
        Check.due("regions behind it", x.about(0, 1), 2);
        Check.due("unmap of a file's", x.unmap(0, 10, 22), 1);
        Check.due("the cached page, which stays", x.frame(1, 0), 2);
        Check.due("who has it", x.frame(1, 4), 0);
        Check.due("its value", x.read(0, 0), 6);
        Check.due("messages that processor 0 had", x.handle(0), 2);
        Check.due("the frame behind that", x.frame(0, 0), 0);
        // A record is gone with its last entry.
        x.store(0, 0, 4, 7);
        x.reclaim(2);
        Check.due("the store's use", x.count(8), 1);
        x.unmap(0, 4, 1);
        Check.due("the store's use behind unmapping", x.count(8), 0);
    }

    private static void protects() {
        Pagewright x = new Pagewright();
        x.space(0);
        x.map(0, 0, 6, 3, -1, 0, false, false);
        x.store(0, 0, 1, 5);
        x.load(0, 0, 2);
        Check.due("protect in the middle", x.protect(0, 1, 2, 1), 3);
        Check.due("an entry that was writable", x.entry(0, 1, 3), 0);
        Check.due("messages, for the one that was writable", x.count(10), 1);
        Check.due("to store then", x.store(0, 0, 1, 6), -3);
        Check.due("to load then", x.load(0, 0, 1), 5);
        Check.due("protect, so that all are alike again", x.protect(0, 0, 32, 3), 1);
        Check.due("an entry stays not writable", x.entry(0, 1, 3), 0);
        Check.due("to store then is a miss", x.store(0, 0, 1, 7), 5);
        Check.due("misses", x.count(1), 4);
        Check.due("copies, for the page was its own", x.count(6), 0);
        Check.due("protect of what is not mapped", x.protect(0, 10, 5, 2), 1);
        x.protect(0, 1, 1, 2);
        Check.due("to load without the right", x.load(0, 0, 1), -3);
        Check.due("to store with the right", x.store(0, 0, 1, 8), 7);
    }

    private static void moves() {
        Pagewright x = new Pagewright();
        x.space(0);
        x.map(0, 4, 4, 3, 1, 2, false, true);
        x.store(0, 0, 5, 9);
        x.load(0, 0, 6);
        Check.due("move away from the middle", x.move(0, 5, 2, 30), 3);
        Check.due("messages for what was PRESENT", x.count(10), 2);
        Check.due("the entry where it came", x.entry(0, 30, 1), 1);
        Check.due("whether it is writable still", x.entry(0, 30, 3), 1);
        Check.due("the value there", x.load(0, 0, 30), 9);
        Check.due("misses, for the translation was another", x.count(1), 3);
        Check.due("where it was", x.entry(0, 5, 0), 0);
        Check.badState("move of what is not mapped", x, on -> on.move(0, 4, 2, 10));
        Check.badState("move onto itself", x, on -> on.move(0, 30, 2, 29));
        Check.badState("move onto another", x, on -> on.move(0, 4, 1, 7));
        Check.due("move back", x.move(0, 30, 2, 5), 1);
        Check.due("a file's index goes along", x.load(1, 0, 7), 0);
        x.write(1, 5, 77);
        Check.due("the index that the last one has", x.load(1, 0, 7), 77);
    }

    private static void forks() {
        Pagewright x = new Pagewright();
        x.space(2);
        x.adjust(0, 30);
        x.map(0, 0, 4, 3, -1, 0, false, true);
        x.map(0, 8, 2, 3, 0, 0, true, false);
        x.store(0, 0, 0, 5);
        x.reclaim(1);
        for (int a = 0; a < 4; a++) {
            x.store(0, 0, a, 10 + a);
        }
        x.store(0, 0, 8, 20);
        x.join(0, 0);
        x.load(0, 0, 3);
        Check.due("fork", x.fork(0), 1);
        Check.due("the fork's score, not adjusted", x.about(1, 5), 5);
        Check.due("its regions", x.about(1, 1), 2);
        Check.due("the parent's blocks", x.about(0, 4), 0);
        Check.due("the parent's entry", x.entry(0, 0, 3), 0);
        Check.due("the fork's entry", x.entry(1, 0, 3), 0);
        Check.due("the parent's entry of a shared file", x.entry(0, 8, 3), 0);
        Check.due("who has the page", x.frame(x.entry(0, 0, 2), 4), 2);
        Check.due("messages for translations that could store", x.count(10), 4);
        Check.due("to store in the fork", x.store(1, 1, 0, 6), 10);
        Check.due("a copy", x.count(6), 1);
        Check.due("the parent's value", x.load(1, 0, 0), 10);
        Check.due("to store in the parent, whose page is its own now", x.store(1, 0, 0, 7), 10);
        Check.due("no copy", x.count(6), 1);
        Check.due("to store into the shared file", x.store(1, 1, 8, 21), 20);
        Check.due("what the parent has of that", x.load(0, 0, 8), 21);
        Check.due("the group of the fork's page", x.frame(x.entry(1, 0, 2), 5), 2);
        // The same record: both have it, and it is gone with the second.
        Pagewright y = new Pagewright();
        y.space(0);
        y.map(0, 0, 1, 3, -1, 0, false, false);
        y.store(0, 0, 0, 500);
        y.reclaim(1);
        y.fork(0);
        Check.due("the store's use", y.count(8), 2);
        Check.due("to load the parent's", y.load(0, 0, 0), 500);
        Check.due("the store's use, as the fork has it", y.count(8), 2);
        Check.due("the fork's entry", y.entry(1, 0, 4), 10);
        Check.due("to load the fork's", y.load(0, 1, 0), 500);
        Check.due("the store's use behind both", y.count(8), 0);
        for (int i = 2; i < 6; i++) {
            Check.due("one more fork", y.fork(i % 2), i);
        }
        Check.badState("a fork as the seventh", y, on -> on.fork(0));
    }

    private static void ends() {
        Pagewright x = new Pagewright();
        x.space(0);
        x.map(0, 0, 4, 3, -1, 0, false, false);
        x.store(0, 0, 0, 5);
        x.store(0, 0, 1, 5);
        x.reclaim(1);
        x.adjust(0, 7);
        Check.due("end", x.end(0), 2);
        Check.due("whether it lives", x.about(0, 0), 0);
        Check.due("its regions", x.about(0, 1), 0);
        Check.due("its score", x.about(0, 5), 7);
        Check.due("spaces killed", x.count(7), 0);
        Check.due("the store's use", x.count(8), 0);
        Check.due("messages, one for each that was in the cache", x.count(10), 2);
        Check.badState("end of a dead one", x, on -> on.end(0));
    }

    private static void adjusts() {
        Pagewright x = new Pagewright();
        x.space(0);
        Check.due("adjust", x.adjust(0, 50), 0);
        Check.due("adjust again", x.adjust(0, -50), 50);
        Check.due("the score", x.about(0, 5), -50);
        x.end(0);
        Check.due("adjust of a dead one", x.adjust(0, 1), -50);
        Check.due("its score", x.about(0, 5), 1);
    }

    private static void limits() {
        Pagewright x = new Pagewright();
        x.space(0);
        x.space(1);
        x.map(0, 0, 8, 3, -1, 0, false, false);
        x.map(1, 0, 8, 3, 2, 0, false, false);
        x.store(0, 0, 0, 5);
        x.store(0, 0, 1, 6);
        x.load(0, 1, 0);
        Check.due("limit of a group with 2 pages", x.limit(0, 1), 2);
        Check.due("limit of a group with 1 page", x.limit(1, 24), 1);
        Check.due("limit of a group with no page", x.limit(2, 1), 0);
        Check.due("pages evicted by the limit itself", x.count(2), 0);
        x.load(0, 0, 2);
        Check.due("pages evicted for the next page", x.count(2), 2);
        Check.due("what is left of the group", x.limit(0, -1), 1);
        x.load(0, 0, 3);
        Check.due("pages evicted without a limit", x.count(2), 2);
        // A call for a file is the group 0's.
        x.limit(0, 2);
        x.read(0, 0);
        Check.due("pages evicted for a call for a file", x.count(2), 3);
        Check.due("the pages of group 0", x.limit(0, 2), 2);
        Check.due("the pages of group 1", x.limit(1, -1), 1);
    }
}
