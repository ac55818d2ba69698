/** The document's terms, sentence by sentence: "Spaces, files" and "Accesses". */
public final class TermsAccessTest {
    private static final int NONE = Pagewright.NONE;

    private TermsAccessTest() {
    }

    public static void main(String[] args) {
        frames();
        spacesAndFiles();
        pages();
        entriesAndRecords();
        caches();
        handlingAhead();
        growing();
        growingNot();
        growingLikeThatAbove();
        rights();
        hits();
        absentOrOut();
        absentOfFiles();
        presentNotWritable();
        valueAsLookedAt();
        presentThen();
        translations();
        messagesThatLeave();
        seenThen();
        callsForFiles();
        Check.finish("TermsAccessTest");
    }

    private static Pagewright one() {
        Pagewright x = new Pagewright();
        x.space(0);
        return x;
    }

    private static void frames() {
        Check.terms("There are 24 frames.");
        Pagewright x = Check.withSpace(new int[24]);
        Check.due("pages evicted for 24", x.count(2), 0);
        for (int a = 0; a < 24; a++) {
            Check.due("the frame of " + a, x.entry(0, a, 2), a);
        }
        x.load(0, 0, 24);
        Check.due("pages evicted for one more", x.count(2), 1);
    }

    private static void spacesAndFiles() {
        Check.terms("Spaces are numbered from 0, up to 6, each with the addresses 0 to 31");
        Pagewright x = new Pagewright();
        for (int i = 0; i < 6; i++) {
            Check.due("the number", x.space(0), i);
            Check.due("map of the addresses", x.map(i, 0, 32, 3, NONE, 0, false, false), 1);
        }
        Check.badState("one more", x, on -> on.space(0));
        Check.due("the entry of the last one's last", x.entry(5, 31, 1), Pagewright.ABSENT);
        Check.terms("is of nothing, or of a file and its index, private or shared, and grows or not.");
        Pagewright y = one();
        y.map(0, 0, 1, 3, NONE, 0, false, false);
        y.map(0, 1, 1, 3, NONE, 0, false, true);
        y.map(0, 2, 1, 3, 1, 0, false, true);
        y.map(0, 3, 1, 3, 1, 1, true, true);
        Check.due("regions of what differs by these", y.map(0, 4, 1, 3, 1, 2, true, false), 5);
        Check.terms("Files are 0 to 2, with the indices 0 to 7; on the disk each has a value, 0 at first.");
        Pagewright z = new Pagewright();
        for (int i = 0; i < 24; i++) {
            Check.due("on the disk at first", z.disk(i / 8, i % 8), 0);
            z.write(i / 8, i % 8, 1 + i);
        }
        z.reclaim(24);
        for (int i = 0; i < 24; i++) {
            Check.due("on the disk then", z.disk(i / 8, i % 8), 1 + i);
        }
        Check.terms("Values are 0 to 99999.");
        Pagewright w = Check.withSpace(99999, 0);
        w.reclaim(2);
        Check.due("the greatest one, out and in", w.load(0, 0, 0), 99999);
        Check.due("the least one, out and in", w.load(0, 0, 1), 0);
        w.write(0, 0, 99999);
        w.sync(0);
        Check.due("the greatest one on the disk", w.disk(0, 0), 99999);
    }

    private static void pages() {
        Check.terms("A PAGE is in a frame: a cached one has a file, an index, and is dirty or clean");
        Pagewright x = Check.withSpace(5);
        x.write(2, 7, 6);
        x.read(1, 0);
        Check.due("a file and an index", x.frame(1, 7), 27);
        Check.due("dirty", x.frame(1, 6), 1);
        Check.due("clean", x.frame(2, 6), 0);
        Check.terms("any other one is a loose one.");
        Check.due("a loose one", x.frame(0, 0), 1);
        Check.due("it has no file", x.frame(0, 7), NONE);
        Check.terms("It has a value, is in the list ACTIVE or IDLE, seen or not, belongs to a group");
        Pagewright y = Check.withSpace(new int[24]);
        y.reclaim(5);
        int listed = 0;
        for (int place = 0; place < 24; place++) {
            listed += y.list(0, place) == NONE ? 0 : 1;
            listed += y.list(1, place) == NONE ? 0 : 1;
        }
        Check.due("how many are in both lists", listed, 19);
        for (int list = 0; list <= 1; list++) {
            for (int place = 0; y.list(list, place) != NONE; place++) {
                Check.due("the list of one of a list", y.frame(y.list(list, place), 2), list);
            }
        }
    }

    private static void entriesAndRecords() {
        Check.terms("A mapped address has an entry, which is ABSENT at first");
        Pagewright x = one();
        Check.due("ahead of mapping", x.entry(0, 0, 1), NONE);
        x.map(0, 0, 32, 3, NONE, 0, false, false);
        Check.due("the first one", x.entry(0, 0, 1), Pagewright.ABSENT);
        Check.due("the last one", x.entry(0, 31, 1), Pagewright.ABSENT);
        // Whatever the address had when it was mapped before does not matter.
        Pagewright again = Check.withSpace(5, 6);
        again.reclaim(1);
        again.unmap(0, 0, 2);
        again.map(0, 0, 2, 3, 1, 0, false, false);
        Check.due("one that was OUT", again.entry(0, 0, 1), Pagewright.ABSENT);
        Check.due("one that was PRESENT", again.entry(0, 1, 1), Pagewright.ABSENT);
        Check.due("to store where it was OUT", again.store(0, 0, 0, 7), 0);
        Check.due("to store where it was writable", again.store(0, 0, 1, 8), 0);
        Check.due("copies, as these are private now", again.count(6), 2);
        Check.due("the file's value", again.read(1, 1), 0);
        Check.terms("PRESENT: it has a page, writable or not, or OUT: it has a record.");
        x.store(0, 0, 0, 5);
        Check.due("PRESENT", x.entry(0, 0, 1), Pagewright.PRESENT);
        Check.due("no record", x.entry(0, 0, 4), NONE);
        x.reclaim(1);
        Check.due("OUT", x.entry(0, 0, 1), Pagewright.OUT);
        Check.due("no page", x.entry(0, 0, 2), NONE);
        Check.due("a record", x.entry(0, 0, 4), 10);
        Check.terms("A record has a value, is compressed or at a place, and is gone when no entry has it.");
        for (int value : new int[] {500, 50000}) {
            Pagewright y = Check.withSpace(value);
            y.reclaim(1);
            y.fork(0);
            y.fork(0);
            y.unmap(0, 0, 1);
            Check.due("of two that have it, one loads it", y.load(0, 1, 0), value);
            Check.due("what is used then", y.count(8) + y.count(9), value == 500 ? 2 : 1);
            Check.due("the last one that has it", y.entry(2, 0, 1), Pagewright.OUT);
            y.end(2);
            Check.due("what is used when none has it", y.count(8) + y.count(9), 0);
        }
    }

    private static void caches() {
        Check.terms("There are the processors 0 and 1; each has a cache of 4 translations, of a space and an address.");
        Pagewright x = Check.withSpace();
        for (int p = 0; p <= 1; p++) {
            for (int a = 0; a < 4; a++) {
                x.load(p, 0, a);
            }
        }
        Check.due("misses of two processors", x.count(1), 8);
        for (int a = 0; a < 4; a++) {
            x.load(0, 0, a);
            x.load(1, 0, a);
        }
        Check.due("hits of four of each", x.count(0), 8);
        x.load(0, 0, 4);
        x.load(1, 0, 0);
        Check.due("hits of 1, as a fifth one is of 0", x.count(0), 9);
        x.load(0, 0, 0);
        Check.due("hits of 0, whose first one left", x.count(0), 9);
        // Behind two that left without others to come, four have room again.
        Pagewright left = Check.withSpace(1, 2);
        left.protect(0, 0, 2, 3);
        left.handle(0);
        for (int a = 0; a < 4; a++) {
            left.load(0, 0, a);
        }
        for (int a = 0; a < 4; a++) {
            left.load(0, 0, a);
        }
        Check.due("hits of four behind two that left", left.count(0), 4);
        // Likewise when the first one of three left.
        Pagewright first = Check.withSpace(1, 2, 3);
        first.protect(0, 0, 1, 3);
        for (int a = 3; a < 5; a++) {
            first.load(0, 0, a);
        }
        for (int a = 1; a < 5; a++) {
            first.load(0, 0, a);
        }
        Check.due("hits of four behind one that left", first.count(0), 4);
        // Likewise when the first one of two left, then each of three.
        Pagewright more = Check.withSpace(1, 2);
        more.protect(0, 0, 1, 3);
        more.handle(0);
        for (int a = 4; a < 7; a++) {
            more.load(0, 0, a);
        }
        for (int a = 4; a < 7; a++) {
            more.load(0, 0, a);
        }
        more.load(0, 0, 1);
        Check.due("hits of one that stayed, and of three behind it", more.count(0), 4);
        // The same address of another space has a translation of its own.
        Pagewright y = Check.withSpace(5);
        y.space(0);
        y.map(1, 0, 1, 3, NONE, 0, false, false);
        Check.due("load of the other space", y.load(0, 1, 0), 0);
        Check.due("misses", y.count(1), 2);
        Check.due("load of the first space", y.load(0, 0, 0), 5);
        Check.due("hits", y.count(0), 1);
    }

    private static void handlingAhead() {
        Check.terms("A processor that does an access handles all messages that it has ahead of that");
        Pagewright x = Check.withSpace(1, 2, 3, 4);
        x.protect(0, 0, 2, 1);
        Check.due("messages", x.count(10), 2);
        x.unmap(0, 31, 1);
        Check.due("an access of what is not mapped", x.load(0, 0, 31), Pagewright.NOT_MAPPED);
        Check.due("messages behind it", x.count(10), 0);
        x.unmap(0, 2, 2);
        Check.due("messages", x.count(10), 2);
        Check.due("an access without the right", x.store(0, 0, 0, 5), Pagewright.NO_RIGHT);
        Check.due("messages behind it", x.count(10), 0);
        Pagewright y = Check.withSpace(1, 2);
        y.load(1, 0, 0);
        y.load(1, 0, 1);
        y.unmap(0, 0, 1);
        Check.due("an access of another address", y.load(0, 0, 1), 2);
        Check.due("hits, as that one has none", y.count(0), 1);
        Check.due("messages that the other processor has", y.count(10), 1);
        Check.due("a call for a file", y.read(0, 0), 0);
        Check.due("messages behind it, as that is no access of a processor", y.count(10), 1);
        Check.terms("these translations leave its cache.");
        Pagewright z = Check.withSpace(1, 2, 3, 4);
        z.unmap(0, 1, 1);
        z.load(0, 0, 4);
        z.load(0, 0, 0);
        z.load(0, 0, 2);
        z.load(0, 0, 3);
        Check.due("hits of those that stayed, as one left ahead", z.count(0), 3);
        z.protect(0, 4, 1, 3);
        Check.due("messages for what was not writable", z.count(10), 0);
        z.protect(0, 2, 1, 3);
        z.load(0, 0, 2);
        Check.due("hits, for what left ahead of its own access", z.count(0), 3);
        Check.due("misses", z.count(1), 6);
    }

    private static void growing() {
        Check.terms("if the address above it is mapped, and grows, and the one below it is not mapped");
        Pagewright x = one();
        x.map(0, 20, 1, 3, NONE, 0, false, true);
        Check.due("below what grows", x.load(0, 0, 19), 0);
        Check.due("below that, which grows too", x.store(0, 0, 18, 5), 0);
        Check.due("two below", x.load(0, 0, 16), Pagewright.NOT_MAPPED);
        Check.due("above", x.load(0, 0, 21), Pagewright.NOT_MAPPED);
        Check.due("how many are mapped", x.unmap(0, 0, 32), 3);
        x.map(0, 10, 1, 3, NONE, 0, false, true);
        x.map(0, 8, 1, 3, NONE, 0, false, false);
        Check.due("just above what is mapped", x.load(0, 0, 9), Pagewright.NOT_MAPPED);
        x.unmap(0, 8, 1);
        x.map(0, 7, 1, 3, NONE, 0, false, false);
        Check.due("two above what is mapped", x.load(0, 0, 9), 0);
        Check.due("then just above it", x.load(0, 0, 8), Pagewright.NOT_MAPPED);
        Pagewright low = one();
        low.map(0, 0, 1, 3, NONE, 0, false, false);
        low.map(0, 2, 1, 3, NONE, 0, false, true);
        Check.due("just above the address 0", low.load(0, 0, 1), Pagewright.NOT_MAPPED);
        low.unmap(0, 0, 1);
        Check.due("when that is not mapped", low.load(0, 0, 1), 0);
        Check.terms("or there is none below");
        x.map(0, 1, 1, 3, NONE, 0, false, true);
        Check.due("the address 0", x.load(0, 0, 0), 0);
        Check.due("rights of the address 0", x.entry(0, 0, 0), 3);
        Check.terms("An access of an address that is not mapped:");
        Check.due("31, above which there is none", x.load(0, 0, 31), Pagewright.NOT_MAPPED);
        x.map(0, 31, 1, 3, NONE, 0, false, true);
        Check.due("30", x.load(0, 0, 30), 0);
    }

    private static void growingNot() {
        Check.terms("Otherwise NOT_MAPPED.");
        Pagewright x = one();
        Check.due("when nothing is mapped", x.load(0, 0, 0), Pagewright.NOT_MAPPED);
        x.map(0, 5, 1, 3, NONE, 0, false, false);
        Check.due("below what does not grow", x.store(1, 0, 4, 6), Pagewright.NOT_MAPPED);
        Check.due("whether it is mapped", x.entry(0, 4, 0), 0);
        Check.due("misses", x.count(1), 0);
        Check.due("the first frame", x.frame(0, 0), 0);
        x.map(0, 4, 1, 3, NONE, 0, false, true);
        x.unmap(0, 4, 1);
        Check.due("below what does not grow, where something grew once", x.load(0, 0, 4), Pagewright.NOT_MAPPED);
        // What grows in another space does not matter.
        x.space(0);
        x.map(1, 5, 1, 3, NONE, 0, false, true);
        Check.due("in the first space", x.load(0, 0, 4), Pagewright.NOT_MAPPED);
        Check.due("in the other space", x.load(0, 1, 4), 0);
        x.map(1, 0, 1, 3, NONE, 0, false, true);
        Check.due("at the other space's end", x.load(0, 0, 31), Pagewright.NOT_MAPPED);
    }

    private static void growingLikeThatAbove() {
        Check.terms("it is mapped like that above it (a file's index 1 less");
        Pagewright x = one();
        x.write(1, 4, 44);
        x.write(1, 3, 33);
        x.map(0, 20, 1, 3, 1, 5, true, true);
        Check.due("the index 1 less", x.load(0, 0, 19), 44);
        Check.due("to store at the next one less", x.store(0, 0, 18, 34), 33);
        Check.due("what the file has, as it is shared", x.read(1, 3), 34);
        Check.due("regions, as indices go on", x.about(0, 1), 1);
        x.map(0, 10, 1, 1, 1, 5, false, true);
        Check.due("a private one's index 1 less", x.load(0, 0, 9), 44);
        Check.due("to store without the right, as above", x.store(0, 0, 9, 1), Pagewright.NO_RIGHT);
        x.protect(0, 9, 1, 3);
        x.store(0, 0, 9, 1);
        Check.due("what the file has, as it is private", x.read(1, 4), 44);
        Check.terms("if that would be below 0, it is as if it did not grow).");
        Pagewright y = one();
        y.map(0, 20, 1, 3, 2, 1, true, true);
        Check.due("the index 0", y.load(0, 0, 19), 0);
        Check.due("its page", y.frame(0, 7), 20);
        Check.due("below the index 0", y.load(0, 0, 18), Pagewright.NOT_MAPPED);
        Check.due("whether that is mapped", y.entry(0, 18, 0), 0);
    }

    private static void rights() {
        Check.terms("Without the right for it NO_RIGHT.");
        int[][] want = {{1, 0, -3}, {2, -3, 0}, {3, 0, 0}};
        for (int[] w : want) {
            Pagewright x = one();
            x.map(0, 4, 1, w[0], NONE, 0, false, false);
            Check.due("to load with the rights " + w[0], x.load(0, 0, 4), w[1]);
            Check.due("misses of it", x.count(1), w[1] == 0 ? 1 : 0);
            Check.due("to store with the rights " + w[0], x.store(0, 0, 4, 6), w[2]);
            Check.due("hits and misses of both", x.count(0) + x.count(1), w[0] == 3 ? 2 : 1);
        }
        Check.terms("one that is has rights (1 to load, 2 to store, 3 both)");
        Pagewright y = one();
        y.map(0, 4, 1, 2, NONE, 0, false, false);
        y.store(0, 0, 4, 6);
        Check.due("to load without the right, though the cache has it", y.load(0, 0, 4), Pagewright.NO_RIGHT);
        Check.due("hits", y.count(0), 0);
        y.protect(0, 4, 1, 1);
        Check.due("to store without the right then", y.store(0, 0, 4, 7), Pagewright.NO_RIGHT);
        Check.due("the value", y.load(0, 0, 4), 6);
    }

    private static void hits() {
        Check.terms("If the cache has the translation, and it may store, or the access is a load, that is a hit.");
        Pagewright x = Check.withSpace();
        x.load(0, 0, 0);
        x.load(0, 0, 0);
        Check.due("a load, and it may not store", x.count(0), 1);
        x.store(0, 0, 0, 1);
        Check.due("a store, and it may not store", x.count(0), 1);
        x.store(0, 0, 0, 2);
        Check.due("a store, and it may store", x.count(0), 2);
        x.load(0, 0, 0);
        Check.due("a load, and it may store", x.count(0), 3);
        Check.terms("Otherwise there is a miss, and the entry is looked at:");
        Check.due("misses", x.count(1), 2);
        x.load(1, 0, 0);
        Check.due("misses, when the other's cache has it", x.count(1), 3);
        x.store(1, 0, 0, 3);
        Check.due("misses, when the entry was writable as it came", x.count(1), 3);
        Check.due("misses and hits", x.count(0) + x.count(1), 7);
        // What came when the entry was not writable may not store, though the other one made it writable.
        Pagewright y = Check.withSpace();
        y.load(0, 0, 0);
        y.store(1, 0, 0, 1);
        y.store(0, 0, 0, 2);
        Check.due("misses of that", y.count(1), 3);
    }

    private static void absentOrOut() {
        Check.terms("ABSENT, of nothing: a new loose page with the value 0 comes.");
        Pagewright x = Check.withSpace();
        Check.due("load", x.load(0, 0, 0), 0);
        Check.due("its kind", x.frame(0, 0), 1);
        x.store(0, 0, 0, 9);
        x.unmap(0, 0, 1);
        x.map(0, 0, 1, 3, NONE, 0, false, false);
        Check.due("load in the same frame, where 9 was", x.load(0, 0, 0), 0);
        Check.due("the frame", x.entry(0, 0, 2), 0);
        Pagewright merged = Check.withSpace(5, 5);
        merged.merge(0, true);
        merged.scan(2);
        merged.unmap(0, 0, 2);
        merged.load(0, 0, 2);
        Check.due("the frame of one that was merged", merged.entry(0, 2, 2), 0);
        Check.due("whether the one that came there is merged", merged.frame(0, 6), 0);
        Check.terms("OUT: a new loose page with the value of the record comes, and the record is left.");
        Pagewright y = Check.withSpace(500);
        y.reclaim(1);
        Check.due("the store's use", y.count(8), 2);
        Check.due("load", y.load(0, 0, 0), 500);
        Check.due("its kind", y.frame(0, 0), 1);
        Check.due("the store's use", y.count(8), 0);
        y.reclaim(1);
        Check.due("to store", y.store(0, 0, 0, 1), 500);
        Check.due("the store's use", y.count(8), 0);
        Check.due("values read from the disk", y.count(4), 0);
    }

    private static void absentOfFiles() {
        Check.terms("ABSENT, of a file: its cached page, which is read from the disk first, if there is none");
        Pagewright x = one();
        x.map(0, 0, 8, 3, 1, 0, false, false);
        x.map(0, 8, 8, 3, 1, 0, true, false);
        Check.due("load", x.load(0, 0, 0), 0);
        Check.due("values read", x.count(4), 1);
        Check.due("load of the same by another address", x.load(0, 0, 8), 0);
        Check.due("values read, as there is one", x.count(4), 1);
        Check.due("its page", x.entry(0, 8, 2), 0);
        Check.due("to store by the one that is shared", x.store(0, 0, 9, 6), 0);
        Check.due("its kind", x.frame(1, 0), 2);
        Check.terms("to store into a private one, a new loose page with its value comes instead");
        Check.due("to store by the one that is private", x.store(0, 0, 1, 7), 6);
        Check.due("its kind", x.frame(2, 0), 1);
        Check.due("the entry's page", x.entry(0, 1, 2), 2);
        Check.due("the cached one's value", x.frame(1, 1), 6);
        Check.due("who has the cached one", x.frame(1, 4), 1);
        Check.due("to store into one of which there is none", x.store(0, 0, 2, 8), 0);
        Check.due("values read", x.count(4), 3);
        Check.due("the cached one", x.frame(3, 7), 12);
        Check.due("the loose one", x.entry(0, 2, 2), 4);
        Check.terms("and that page is not seen by that.");
        Check.due("whether the one that was read is seen", x.frame(3, 3), 0);
        Check.due("whether the loose one is seen", x.frame(4, 3), 1);
        Pagewright seen = one();
        seen.map(0, 0, 1, 3, NONE, 0, false, false);
        seen.map(0, 1, 1, 3, 1, 0, false, false);
        seen.load(0, 0, 0);
        seen.unmap(0, 0, 1);
        seen.store(0, 0, 1, 5);
        Check.due("the frame of one that was seen", seen.frame(0, 7), 10);
        Check.due("whether the one that came there is seen", seen.frame(0, 3), 0);
    }

    private static void presentNotWritable() {
        Check.terms("if its page is a loose one that no other entry has, it becomes writable, and is merged no more");
        Pagewright x = Check.withSpace(5, 5);
        x.merge(0, true);
        x.scan(2);
        x.unmap(0, 1, 1);
        Check.due("merged", x.frame(0, 6), 1);
        Check.due("to store", x.store(0, 0, 0, 6), 5);
        Check.due("its page", x.entry(0, 0, 2), 0);
        Check.due("writable", x.entry(0, 0, 3), 1);
        Check.due("merged no more", x.frame(0, 6), 0);
        Check.due("copies", x.count(6), 0);
        Check.terms("if it is a cached one, and the address is shared, it becomes writable");
        Pagewright y = one();
        y.space(0);
        y.map(0, 0, 1, 3, 0, 0, true, false);
        y.map(1, 0, 1, 3, 0, 0, false, false);
        y.load(0, 0, 0);
        y.load(0, 1, 0);
        Check.due("to store", y.store(0, 0, 0, 6), 0);
        Check.due("its page, which another one has", y.entry(0, 0, 2), 0);
        Check.due("writable", y.entry(0, 0, 3), 1);
        Check.due("the value of the other", y.load(0, 1, 0), 6);
        Check.terms("otherwise a new loose page with the value of it comes in place of it.");
        Check.due("to store into the private one", y.store(0, 1, 0, 7), 6);
        Check.due("its page", y.entry(1, 0, 2), 1);
        Check.due("its kind", y.frame(1, 0), 1);
        Check.due("writable", y.entry(1, 0, 3), 1);
        Check.due("the file's value", y.read(0, 0), 6);
        Check.due("who has the cached one", y.frame(0, 4), 1);
        Pagewright z = Check.withSpace(5);
        z.fork(0);
        Check.due("to store into a loose one that another has", z.store(0, 0, 0, 6), 5);
        Check.due("the fork's value", z.load(0, 1, 0), 5);
        Check.due("copies", z.count(6), 1);
        Check.due("to store into what no other has now", z.store(0, 1, 0, 7), 5);
        Check.due("copies", z.count(6), 1);
        Check.due("a private file's loose page is its own", y.store(1, 1, 0, 8), 7);
        y.protect(1, 0, 1, 3);
        y.store(1, 1, 0, 9);
        Check.due("its page then", y.entry(1, 0, 2), 1);
    }

    private static void valueAsLookedAt() {
        Check.terms("A new page has the value as it was when the entry was looked at, whatever was evicted");
        Pagewright x = Check.withSpace(500);
        x.limit(0, 1);
        x.fork(0);
        Check.due("to store, as its own page is evicted for that", x.store(0, 0, 0, 6), 500);
        Check.due("pages evicted", x.count(2), 1);
        Check.due("the fork's entry", x.entry(1, 0, 1), Pagewright.OUT);
        Check.due("copies", x.count(6), 1);
        Check.due("the fork's value", x.load(0, 1, 0), 500);
        Pagewright y = one();
        y.limit(0, 1);
        y.map(0, 0, 1, 3, 0, 0, false, false);
        y.write(0, 0, 70);
        Check.due("to store, as the cached page is evicted for that", y.store(0, 0, 0, 6), 70);
        Check.due("the disk", y.disk(0, 0), 70);
        Check.due("copies", y.count(6), 1);
        Check.terms("what the entry has by then, a record, too, is left only as it gets that page.");
        Check.due("the record of the page that was its own", x.count(8), 1);
        Pagewright w = Check.withSpace(500);
        w.limit(0, 1);
        w.fork(0);
        w.store(0, 0, 0, 6);
        Check.due("the store's use, as the fork has the record", w.count(8), 2);
        w.end(1);
        Check.due("the store's use without the fork", w.count(8), 0);
        // All places are taken, also that of the record itself: for its page's frame another space is killed.
        Pagewright z = one();
        z.space(0);
        z.map(0, 0, 32, 3, NONE, 0, false, false);
        z.map(1, 0, 32, 3, NONE, 0, false, false);
        for (int a = 0; a < 10; a++) {
            z.store(0, 0, a, 50000 + a);
        }
        z.reclaim(10);
        for (int a = 0; a < 24; a++) {
            z.store(0, 1, a, 60000);
        }
        Check.due("load of what is at a place", z.load(0, 0, 3), 50003);
        Check.due("spaces killed", z.count(7), 1);
        Check.due("places", z.count(9), 9);
        Check.due("pages evicted", z.count(2), 10);
        // The page that is copied is the entry's as well until then: it counts for the score, and keeps its frame.
        for (int by = 0; by <= 1; by++) {
            Pagewright s = one();
            s.space(1);
            s.map(0, 0, 32, 3, NONE, 0, false, false);
            s.map(1, 0, 32, 3, NONE, 0, false, false);
            for (int a = 0; a < 10; a++) {
                s.store(0, 0, a, 50000);
            }
            s.reclaim(10);
            for (int a = 0; a < 24; a++) {
                s.store(0, 1, a, 60000);
            }
            s.fork(1);
            s.adjust(1, -by);
            Check.due("to store for a copy, adjusted by " + -by, s.store(0, 1, 0, 5), Pagewright.KILLED);
            Check.due("spaces killed", s.count(7), 1 + by);
            Check.due("whether the fork lives", s.about(2, 0), 1 - by);
        }
    }

    private static void presentThen() {
        Check.terms("The entry is PRESENT then; one that was not is writable if the access is to store.");
        for (int file = NONE; file <= 0; file++) {
            Pagewright x = one();
            x.map(0, 0, 4, 3, file, 0, true, false);
            x.load(0, 0, 0);
            x.store(0, 0, 1, 0);
            Check.due("behind a load", x.entry(0, 0, 1), Pagewright.PRESENT);
            Check.due("behind a store", x.entry(0, 1, 1), Pagewright.PRESENT);
            Check.due("writable behind a load", x.entry(0, 0, 3), 0);
            Check.due("writable behind a store", x.entry(0, 1, 3), 1);
            x.reclaim(2);
            x.load(0, 0, 1);
            x.store(0, 0, 0, 0);
            Check.due("writable behind a load of what was evicted", x.entry(0, 1, 3), 0);
            Check.due("writable behind a store of what was evicted", x.entry(0, 0, 3), 1);
        }
        Pagewright y = one();
        y.map(0, 0, 2, 3, 0, 0, false, false);
        y.store(0, 0, 0, 5);
        y.load(0, 0, 1);
        Check.due("writable behind a store of a private one", y.entry(0, 0, 3), 1);
        Check.due("writable behind a load of a private one", y.entry(0, 1, 3), 0);
        y.load(0, 0, 0);
        Check.due("one that was writable stays so", y.entry(0, 0, 3), 1);
    }

    private static void translations() {
        Check.terms("The translation comes into the cache, in place of an older one of it, otherwise behind");
        Pagewright x = Check.withSpace();
        for (int a = 0; a < 4; a++) {
            x.load(0, 0, a);
        }
        x.store(0, 0, 0, 1);
        Check.due("misses", x.count(1), 5);
        x.load(0, 0, 1);
        x.load(0, 0, 2);
        x.load(0, 0, 3);
        x.store(0, 0, 0, 2);
        Check.due("hits, as the older one's place was taken", x.count(0), 4);
        x.load(0, 0, 4);
        x.load(0, 0, 1);
        Check.due("hits, as the first place's left", x.count(0), 5);
        x.load(0, 0, 0);
        Check.due("misses, as the first place's left", x.count(1), 7);
        Check.terms("of more than 4 the first one leaves.");
        Pagewright y = Check.withSpace(1, 2, 3, 4);
        y.load(0, 0, 0);
        Check.due("hits with 4", y.count(0), 1);
        y.load(0, 0, 4);
        y.load(0, 0, 1);
        y.load(0, 0, 2);
        y.load(0, 0, 3);
        y.load(0, 0, 4);
        Check.due("hits of the last 4 of 5", y.count(0), 5);
        y.load(0, 0, 0);
        Check.due("misses, for the first one of 5", y.count(1), 6);
        y.load(0, 0, 1);
        Check.due("misses, for the second one that left for the first one", y.count(1), 7);
    }

    private static void messagesThatLeave() {
        Check.terms("(A message for a translation that leaves is gone.)");
        // The page of 0 is evicted for that of 4, whose translation comes behind those of both processors' caches.
        int[][] orders = {{0, 1, 2, 3}, {1, 0, 2, 3}};
        for (int[] order : orders) {
            Pagewright x = Check.withSpace();
            for (int a = 0; a < 4; a++) {
                x.store(1, 0, a, 1);
            }
            for (int a : order) {
                x.load(0, 0, a);
            }
            x.limit(0, 4);
            x.load(0, 0, 4);
            Check.due("the one that was evicted", x.entry(0, 0, 1), Pagewright.OUT);
            Check.due("messages, if it was in the place " + order[0] + " of the cache", x.count(10), 1 + order[0]);
            Check.due("messages of the other processor", x.handle(1), 1);
            Check.due("messages of this one", x.handle(0), order[0]);
        }
        // An older one of the same entry leaves as well, with the message for the page that it got in place of it.
        Pagewright z = Check.withSpace(5);
        z.fork(0);
        z.handle(0);
        z.load(0, 0, 0);
        z.store(0, 0, 0, 6);
        Check.due("copies", z.count(6), 1);
        Check.due("messages", z.count(10), 0);
        z.store(0, 0, 0, 7);
        Check.due("hits", z.count(0), 1);
    }

    private static void seenThen() {
        Check.terms("In any case the page is seen then");
        Pagewright x = Check.withSpace(1, 2, 3, 4);
        x.reclaim(1);
        Check.due("not seen, as it had its second look", x.frame(3, 3), 0);
        x.load(0, 0, 3);
        Check.due("hits", x.count(0), 1);
        Check.due("seen by a hit", x.frame(3, 3), 1);
        x.load(1, 0, 1);
        Check.due("seen by a miss", x.frame(1, 3), 1);
        Check.terms("to store gives it the value; a cached one is dirty then.");
        Pagewright y = one();
        y.map(0, 0, 2, 3, 0, 0, true, false);
        y.map(0, 4, 1, 3, NONE, 0, false, false);
        y.load(0, 0, 0);
        Check.due("dirty behind a load", y.frame(0, 6), 0);
        y.store(0, 0, 0, 0);
        Check.due("dirty behind a store of the same value", y.frame(0, 6), 1);
        y.sync(0);
        y.load(0, 0, 0);
        Check.due("dirty behind a load then", y.frame(0, 6), 0);
        y.store(0, 0, 0, 7);
        y.store(0, 0, 0, 8);
        Check.due("the value of the last store, a hit", y.frame(0, 1), 8);
        y.store(0, 0, 4, 9);
        Check.due("the value of a loose one", y.frame(1, 1), 9);
        Check.due("whether a loose one is merged by that", y.frame(1, 6), 0);
        Check.due("the page of a private one's cached one, not dirty", privateOne().frame(0, 6), 0);
    }

    private static Pagewright privateOne() {
        Pagewright x = one();
        x.map(0, 0, 1, 3, 0, 0, false, false);
        x.store(0, 0, 0, 5);
        return x;
    }

    private static void callsForFiles() {
        Check.terms("To write or read a file by call is to take its cached page likewise");
        Pagewright x = one();
        x.map(0, 0, 1, 3, 1, 3, true, false);
        x.store(0, 0, 0, 5);
        Check.due("read of what a space has", x.read(1, 3), 5);
        Check.due("values read from the disk", x.count(4), 1);
        Check.due("write of what a space has", x.write(1, 3, 6), 5);
        Check.due("the space's value", x.load(0, 0, 0), 6);
        Check.due("values read from the disk", x.count(4), 1);
        x.read(1, 4);
        x.write(1, 5, 1);
        Check.due("values read from the disk for what none has", x.count(4), 3);
        Check.due("hits and misses by call", x.count(0) + x.count(1), 2);
        Check.terms("and to give it a value, dirty, or to tell its value; it is seen then.");
        Check.due("dirty behind a read", x.frame(1, 6), 0);
        Check.due("dirty behind a write", x.frame(2, 6), 1);
        Check.due("seen behind a read", x.frame(1, 3), 1);
        Check.due("seen behind a write", x.frame(2, 3), 1);
        Pagewright y = new Pagewright();
        for (int i = 0; i < 4; i++) {
            y.read(0, i);
        }
        y.reclaim(1);
        Check.due("not seen", y.frame(2, 3) + y.frame(3, 3), 0);
        y.read(0, 2);
        y.write(0, 3, 0);
        Check.due("seen behind the next read and write", y.frame(2, 3) + y.frame(3, 3), 2);
        Check.due("dirty, though of the same value", y.frame(3, 6), 1);
    }
}
