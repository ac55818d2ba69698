/** Promises 11 to 16: load, store, read, write, sync, disk; and what the terms say of accesses. */
public final class AccessTest {
    private AccessTest() {
    }

    public static void main(String[] args) {
        rights();
        growing();
        loosePages();
        files();
        privateFiles();
        calls();
        syncing();
        caches();
        messages();
        ownPages();
        Check.finish("AccessTest");
    }

    private static Pagewright withSpace() {
        Pagewright x = new Pagewright();
        x.space(0);
        return x;
    }

    private static void rights() {
        Pagewright x = withSpace();
        x.map(0, 0, 1, 1, -1, 0, false, false);
        x.map(0, 1, 1, 2, -1, 0, false, false);
        Check.due("to load with the right to load", x.load(0, 0, 0), 0);
        Check.due("to store with the right to load", x.store(0, 0, 0, 1), -3);
        Check.due("to load with the right to store", x.load(0, 0, 1), -3);
        Check.due("to store with the right to store", x.store(0, 0, 1, 99999), 0);
        Check.due("to store again", x.store(0, 0, 1, 0), 99999);
        Check.due("to load what is not mapped", x.load(0, 0, 2), -2);
        Check.due("hits", x.count(0), 1);
        Check.due("misses", x.count(1), 2);
    }

    private static void growing() {
        Pagewright x = withSpace();
        x.map(0, 31, 1, 3, -1, 0, false, true);
        Check.due("to store below", x.store(0, 0, 30, 5), 0);
        Check.due("regions", x.about(0, 1), 1);
        Check.due("two below", x.store(0, 0, 28, 5), -2);
        x.map(0, 27, 1, 3, -1, 0, false, false);
        Check.due("to load, two above another", x.load(0, 0, 29), 0);
        Check.due("to load, just above another", x.load(0, 0, 28), -2);
        x.map(0, 2, 1, 1, -1, 0, false, true);
        Check.due("to store below one without the right", x.store(0, 0, 1, 5), -3);
        Check.due("it is mapped all the same", x.entry(0, 1, 0), 1);
        Check.due("to load at the lowest address, with none below", x.load(0, 0, 0), 0);
        x.map(0, 10, 1, 3, 2, 1, true, true);
        x.write(2, 0, 44);
        Check.due("to load below a file's", x.load(0, 0, 9), 44);
        Check.due("below the file's first index", x.load(0, 0, 8), -2);
        Check.due("regions with the file's", x.about(0, 1), 4);
        Check.due("above all, where none is above", x.load(0, 0, 11), -2);
        x.unmap(0, 31, 1);
        Check.due("at 31", x.load(0, 0, 31), -2);
    }

    private static void loosePages() {
        Pagewright x = withSpace();
        x.map(0, 0, 4, 3, -1, 0, false, false);
        Check.due("a new page", x.load(0, 0, 0), 0);
        Check.due("its frame", x.entry(0, 0, 2), 0);
        Check.due("whether it is writable", x.entry(0, 0, 3), 0);
        Check.due("its kind", x.frame(0, 0), 1);
        Check.due("its list", x.frame(0, 2), 0);
        Check.due("whether it is seen", x.frame(0, 3), 1);
        Check.due("to store", x.store(0, 0, 0, 3), 0);
        Check.due("whether it is writable now", x.entry(0, 0, 3), 1);
        Check.due("the same frame", x.entry(0, 0, 2), 0);
        Check.due("messages", x.count(10), 0);
        Check.due("copies", x.count(6), 0);
        x.reclaim(1);
        Check.due("OUT", x.entry(0, 0, 1), 2);
        Check.due("to store what is OUT", x.store(0, 0, 0, 4), 3);
        Check.due("whether it is writable", x.entry(0, 0, 3), 1);
        x.reclaim(1);
        Check.due("to load what is OUT", x.load(0, 0, 0), 4);
        Check.due("whether it is writable", x.entry(0, 0, 3), 0);
        Check.due("the store's use", x.count(8), 0);
        Check.due("copies of another page", x.count(6), 0);
    }

    private static void files() {
        Pagewright x = withSpace();
        x.map(0, 0, 8, 3, 1, 0, true, false);
        Check.due("to load", x.load(0, 0, 3), 0);
        Check.due("values read", x.count(4), 1);
        Check.due("the page", x.frame(0, 0), 2);
        Check.due("its file and index", x.frame(0, 7), 13);
        Check.due("whether it is dirty", x.frame(0, 6), 0);
        Check.due("whether its entry is writable", x.entry(0, 3, 3), 0);
        Check.due("to store", x.store(0, 0, 3, 5), 0);
        Check.due("the same page", x.entry(0, 3, 2), 0);
        Check.due("whether it is dirty", x.frame(0, 6), 1);
        Check.due("whether its entry is writable", x.entry(0, 3, 3), 1);
        Check.due("to store at once", x.store(0, 0, 4, 6), 0);
        Check.due("whether that entry is writable", x.entry(0, 4, 3), 1);
        Check.due("the file's value", x.read(1, 4), 6);
        Check.due("the disk's value", x.disk(1, 4), 0);
        Check.due("values read", x.count(4), 2);
        Check.due("evicted", x.reclaim(2), 2);
        Check.due("the disk's value", x.disk(1, 4), 6);
        Check.due("values written", x.count(5), 2);
        Check.due("the entry", x.entry(0, 4, 1), 0);
        Check.due("to load again", x.load(0, 0, 4), 6);
    }

    private static void privateFiles() {
        Pagewright x = withSpace();
        x.map(0, 0, 2, 3, 0, 0, false, false);
        x.write(0, 0, 7);
        x.write(0, 1, 8);
        x.reclaim(2);
        Check.due("to store at once", x.store(0, 0, 0, 9), 7);
        Check.due("copies", x.count(6), 1);
        Check.due("values read", x.count(4), 3);
        Check.due("the cached page, not seen by that", x.frame(0, 3), 0);
        Check.due("who has it", x.frame(0, 4), 0);
        Check.due("the loose one, seen", x.frame(1, 3), 1);
        Check.due("the file's value", x.read(0, 0), 7);
        Check.due("to load the other", x.load(0, 0, 1), 8);
        Check.due("its page is the cached one", x.frame(x.entry(0, 1, 2), 0), 2);
        Check.due("to store into it", x.store(0, 0, 1, 10), 8);
        Check.due("its page is a loose one", x.frame(x.entry(0, 1, 2), 0), 1);
        Check.due("whether it is writable", x.entry(0, 1, 3), 1);
        Check.due("copies", x.count(6), 2);
        Check.due("its own message is gone with the older translation", x.count(10), 0);
        Check.due("to store again is a hit", x.store(0, 0, 1, 11), 10);
        Check.due("hits", x.count(0), 1);
        x.write(0, 1, 12);
        Check.due("what is private stays", x.load(0, 0, 1), 11);
        Check.due("sync finds what was written by call", x.sync(0), 1);
    }

    private static void calls() {
        Pagewright x = withSpace();
        Check.due("write", x.write(2, 7, 99999), 0);
        Check.due("write again", x.write(2, 7, 1), 99999);
        Check.due("read", x.read(2, 7), 1);
        Check.due("whether its page is seen", x.frame(0, 3), 1);
        Check.due("its group", x.frame(0, 5), 0);
        Check.due("whether it is dirty", x.frame(0, 6), 1);
        Check.due("disk", x.disk(2, 7), 0);
        Check.due("values read", x.count(4), 1);
        Check.due("hits and misses", x.count(0) + x.count(1), 0);
        Check.due("read of another", x.read(2, 6), 0);
        Check.due("whether that is dirty", x.frame(1, 6), 0);
        Check.due("IDLE", x.list(0, 0), 0);
        Check.due("IDLE, behind it", x.list(0, 1), 1);
        // The page belongs to the group whose space needed it first.
        x.space(2);
        x.map(1, 0, 1, 1, 0, 0, true, false);
        x.load(0, 1, 0);
        x.read(0, 0);
        Check.due("the group of a page that a space needed", x.frame(2, 5), 2);
    }

    private static void syncing() {
        Pagewright x = withSpace();
        x.map(0, 0, 3, 3, 1, 0, true, false);
        x.store(0, 0, 0, 5);
        x.store(0, 0, 1, 6);
        x.load(0, 0, 2);
        x.write(2, 0, 7);
        Check.due("sync", x.sync(1), 2);
        Check.due("disk", x.disk(1, 1), 6);
        Check.due("disk of another file", x.disk(2, 0), 0);
        Check.due("whether an entry is writable", x.entry(0, 1, 3), 0);
        Check.due("whether its page is dirty", x.frame(1, 6), 0);
        Check.due("messages", x.count(10), 2);
        Check.due("values written", x.count(5), 2);
        Check.due("sync again", x.sync(1), 0);
        Check.due("messages", x.handle(0), 2);
        Check.due("to store is a miss", x.store(0, 0, 1, 8), 6);
        Check.due("misses", x.count(1), 4);
        Check.due("sync of the one", x.sync(1), 1);
    }

    private static void caches() {
        Pagewright x = withSpace();
        x.map(0, 0, 6, 3, -1, 0, false, false);
        for (int a = 0; a < 4; a++) {
            x.load(0, 0, a);
        }
        for (int a = 0; a < 4; a++) {
            x.load(0, 0, a);
        }
        Check.due("hits of four", x.count(0), 4);
        x.store(0, 0, 0, 5);
        Check.due("misses, for the translation could not store", x.count(1), 5);
        x.load(0, 0, 4);
        x.load(0, 0, 1);
        Check.due("hits, for the first one left, in place as it was", x.count(0), 5);
        x.store(0, 0, 0, 6);
        Check.due("misses, for the first one", x.count(1), 7);
        x.load(1, 0, 0);
        Check.due("misses of the other processor", x.count(1), 8);
        // What a translation may is as it was when it came.
        Pagewright y = withSpace();
        y.map(0, 0, 1, 3, -1, 0, false, false);
        y.load(0, 0, 0);
        y.store(1, 0, 0, 1);
        y.store(0, 0, 0, 2);
        Check.due("misses, for what came ahead of the other's store", y.count(1), 3);
        y.store(0, 0, 0, 3);
        Check.due("hits behind that", y.count(0), 1);
    }

    private static void messages() {
        Pagewright x = withSpace();
        x.map(0, 0, 6, 3, -1, 0, false, false);
        x.store(0, 0, 0, 5);
        x.store(1, 0, 0, 6);
        x.unmap(0, 0, 1);
        Check.due("messages to both", x.count(10), 2);
        Check.due("the frame lingers", x.frame(0, 0), 3);
        x.store(0, 0, 1, 7);
        Check.due("a frame that lingers is not taken", x.entry(0, 1, 2), 1);
        Check.due("messages, as an access handles them", x.count(10), 1);
        Check.due("the frame lingers for the other", x.frame(0, 0), 3);
        Check.due("even what is not mapped handles them", x.load(1, 0, 0), -2);
        Check.due("messages", x.count(10), 0);
        Check.due("the frame is free", x.frame(0, 0), 0);
        Check.due("messages that the other has", x.handle(1), 0);
        // A second message for a translation that has one does not come.
        x.map(0, 0, 1, 3, -1, 0, false, false);
        x.store(1, 0, 0, 1);
        x.protect(0, 0, 1, 3);
        x.store(0, 0, 0, 2);
        x.protect(0, 0, 1, 3);
        Check.due("messages, one a translation", x.count(10), 2);
        Check.due("of the one that has two reasons", x.handle(1), 1);
        // A message leaves with its translation.
        Pagewright y = withSpace();
        y.map(0, 0, 32, 3, -1, 0, false, false);
        for (int a = 0; a < 24; a++) {
            y.store(0, 0, a, 1);
        }
        y.store(1, 0, 5, 2);
        y.unmap(0, 20, 4);
        Check.due("messages ahead of a frame's need", y.count(10), 4);
        y.unmap(0, 5, 1);
        Check.due("messages with that of the other", y.count(10), 5);
        Check.due("a frame is free, for no cache has its page", y.frame(6, 0), 1);
        y.store(1, 0, 24, 3);
        Check.due("the processor handled its own, and took that frame", y.entry(0, 24, 2), 5);
        y.store(1, 0, 25, 4);
        Check.due("all handled theirs, as only lingering ones were left", y.count(10), 0);
        Check.due("the lowest of them", y.entry(0, 25, 2), 20);
        Check.due("evicted", y.count(2), 0);
    }

    private static void ownPages() {
        // The page that is copied is evicted for the copy's frame, and its record is left as the copy comes.
        Pagewright x = withSpace();
        x.limit(0, 1);
        x.map(0, 0, 1, 3, -1, 0, false, false);
        x.store(0, 0, 0, 500);
        x.fork(0);
        Check.due("to store", x.store(0, 0, 0, 6), 500);
        Check.due("evicted", x.count(2), 1);
        Check.due("copies", x.count(6), 1);
        Check.due("the fork's entry", x.entry(1, 0, 1), 2);
        Check.due("the store's use, for the fork has the record", x.count(8), 2);
        x.end(1);
        Check.due("the store's use", x.count(8), 0);
        // A cached page that is copied is evicted likewise, and is written first.
        Pagewright y = withSpace();
        y.limit(0, 1);
        y.map(0, 0, 1, 3, 0, 0, false, false);
        y.write(0, 0, 70);
        Check.due("to load", y.load(0, 0, 0), 70);
        Check.due("to store", y.store(0, 0, 0, 71), 70);
        Check.due("the page is the only one", y.limit(0, -1), 1);
        Check.due("the disk has what was written", y.disk(0, 0), 70);
        Check.due("values written", y.count(5), 1);
    }
}
