/** The document's terms, sentence by sentence: "Maps". */
public final class TermsMapsTest {
    private static final int NONE = Pagewright.NONE;

    private TermsMapsTest() {
    }

    public static void main(String[] args) {
        unmapping();
        protecting();
        moving();
        forking();
        forkingPages();
        regions();
        regionsOfFiles();
        blocks();
        blocksAlike();
        blocksWithPages();
        blocksEnd();
        blocksStay();
        scanning();
        scannedPlaces();
        scannedEntries();
        mergedAlready();
        mergedAnew();
        firstSuch();
        lookedAtInThisRound();
        stillLikeThat();
        roundsEnd();
        otherEntries();
        Check.finish("TermsMapsTest");
    }

    private static Pagewright spaces(int... groups) {
        Pagewright x = new Pagewright();
        for (int i = 0; i < groups.length; i++) {
            x.space(groups[i]);
            x.map(i, 0, 32, 3, NONE, 0, false, false);
        }
        return x;
    }

    private static Pagewright toMerge(int... values) {
        Pagewright x = Check.withSpace(values);
        x.merge(0, true);
        return x;
    }

    // ---- unmapping, protecting, moving, forking

    private static void unmapping() {
        Check.terms("To unmap an address is to leave its page, or record: a loose page that no entry has is gone");
        Pagewright x = Check.withSpace(5, 500);
        x.fork(0);
        x.unmap(0, 0, 1);
        Check.due("the page that the fork has too", x.frame(0, 0), 1);
        Check.due("who has it", x.frame(0, 4), 1);
        x.unmap(1, 0, 1);
        x.handle(0);
        Check.due("the page that none has", x.frame(0, 0), 0);
        Check.list("IDLE", x, 0, 1);
        x.reclaim(1);
        x.unmap(0, 1, 1);
        Check.due("the store's use, as the fork has the record too", x.count(8), 2);
        x.unmap(1, 1, 1);
        Check.due("the store's use, as none has", x.count(8), 0);
        Check.due("pages evicted", x.count(2), 1);
        Check.terms("a cached one stays.");
        Pagewright y = spaces(0);
        y.unmap(0, 0, 2);
        y.map(0, 0, 2, 3, 1, 0, true, false);
        y.store(0, 0, 0, 5);
        y.load(0, 0, 1);
        y.unmap(0, 0, 2);
        y.handle(0);
        Check.due("the dirty one", y.frame(0, 0), 2);
        Check.due("whether it is dirty", y.frame(0, 6), 1);
        Check.due("who has it", y.frame(0, 4), 0);
        Check.due("the clean one", y.frame(1, 0), 2);
        Check.due("values written", y.count(5), 0);
        Check.due("the value", y.read(1, 0), 5);
    }

    private static void protecting() {
        Check.terms("To protect gives rights; entries are not writable then.");
        for (int rights = 1; rights <= 3; rights++) {
            Pagewright x = Check.withSpace(5, 6);
            x.protect(0, 0, 1, rights);
            Check.due("its rights", x.entry(0, 0, 0), rights);
            Check.due("writable, of the rights " + rights, x.entry(0, 0, 3), 0);
            Check.due("writable beside it", x.entry(0, 1, 3), 1);
            Check.due("to store", x.store(0, 0, 0, 7), rights == 1 ? Pagewright.NO_RIGHT : 5);
            Check.due("writable then", x.entry(0, 0, 3), rights == 1 ? 0 : 1);
        }
        Pagewright y = Check.withSpace(5);
        y.reclaim(1);
        y.protect(0, 0, 2, 1);
        Check.due("what is OUT stays so", y.entry(0, 0, 1), Pagewright.OUT);
        Check.due("its value", y.load(0, 0, 0), 5);
        Check.due("rights of what is ABSENT", y.entry(0, 1, 0), 1);
    }

    private static void moving() {
        Check.terms("To move takes entries, rights and all along.");
        Pagewright x = spaces(0);
        x.unmap(0, 0, 32);
        x.map(0, 4, 1, 2, NONE, 0, false, true);
        x.map(0, 5, 1, 1, 2, 3, true, true);
        x.map(0, 6, 1, 3, NONE, 0, false, false);
        x.map(0, 7, 1, 3, NONE, 0, false, false);
        x.store(0, 0, 6, 500);
        x.reclaim(1);
        x.store(0, 0, 4, 9);
        Check.due("move", x.move(0, 4, 4, 20), 3);
        Check.due("rights of the first one", x.entry(0, 20, 0), 2);
        Check.due("rights of the second one", x.entry(0, 21, 0), 1);
        Check.due("its entry", x.entry(0, 20, 1), Pagewright.PRESENT);
        Check.due("its page", x.entry(0, 20, 2), 0);
        Check.due("writable", x.entry(0, 20, 3), 1);
        Check.due("the entry of the third one", x.entry(0, 22, 1), Pagewright.OUT);
        Check.due("who has it", x.frame(0, 4), 1);
        Check.due("the record of the third one", x.entry(0, 22, 4), 10);
        Check.due("its value", x.load(0, 0, 22), 500);
        Check.due("the last one, ABSENT", x.entry(0, 23, 1), Pagewright.ABSENT);
        Check.due("whether it grows still", x.store(0, 0, 19, 1), 0);
        x.load(0, 0, 21);
        Check.due("the file and the index of the second one", x.frame(x.entry(0, 21, 2), 7), 23);
        for (int a = 4; a < 8; a++) {
            Check.due("rights where they were", x.entry(0, a, 0), 0);
            Check.due("entries where they were", x.entry(0, a, 1), NONE);
        }
        Check.due("the store's use", x.count(8), 0);
    }

    private static void forking() {
        Check.terms("To fork makes a new space with the same group, not adjusted, addresses mapped alike");
        Pagewright x = spaces(0, 2);
        x.unmap(1, 0, 32);
        x.map(1, 0, 1, 1, NONE, 0, false, false);
        x.map(1, 10, 1, 3, 1, 5, true, true);
        x.map(1, 31, 1, 2, NONE, 0, false, false);
        x.adjust(1, 9);
        Check.due("fork", x.fork(1), 2);
        Check.due("its score", x.about(2, 5), 0);
        Check.due("the parent's score", x.about(1, 5), 9);
        Check.due("its regions", x.about(2, 1), 3);
        Check.due("rights of its first one", x.entry(2, 0, 0), 1);
        Check.due("rights of its last one", x.entry(2, 31, 0), 2);
        Check.due("rights of what is not mapped", x.entry(2, 1, 0), 0);
        x.write(1, 4, 6);
        Check.due("what grows like the parent's", x.load(0, 2, 9), 6);
        Check.due("the parent's regions, as that is the fork's", x.about(1, 1), 3);
        x.store(0, 2, 10, 7);
        Check.due("the file, as it is shared", x.read(1, 5), 7);
        Check.due("the group of the page", x.frame(x.entry(2, 10, 2), 5), 2);
        Check.due("adjust of the fork", x.adjust(2, 1), 0);
        Pagewright none = new Pagewright();
        none.space(1);
        Check.due("fork of what has nothing", none.fork(0), 1);
        Check.due("its regions", none.about(1, 1), 0);
    }

    private static void forkingPages() {
        Check.terms("and entries that have the same pages, none of these writable in both, and the same records.");
        Pagewright x = spaces(0);
        x.unmap(0, 31, 1);
        x.map(0, 31, 1, 3, 0, 0, true, false);
        x.store(0, 0, 1, 500);
        x.reclaim(1);
        x.store(0, 0, 0, 5);
        x.store(0, 0, 31, 6);
        x.load(0, 0, 2);
        x.fork(0);
        for (int a : new int[] {0, 2, 31}) {
            Check.due("the page of " + a, x.entry(1, a, 2), x.entry(0, a, 2));
            Check.due("who has it", x.frame(x.entry(0, a, 2), 4), 2);
            Check.due("writable in the parent", x.entry(0, a, 3), 0);
            Check.due("writable in the fork", x.entry(1, a, 3), 0);
        }
        Check.due("the record", x.entry(1, 1, 4), 10);
        Check.due("the store's use", x.count(8), 2);
        Check.due("what is ABSENT", x.entry(1, 3, 1), Pagewright.ABSENT);
        Check.due("how many are PRESENT", x.about(1, 2), 3);
        Check.due("how many are OUT", x.about(1, 3), 1);
        Check.due("new pages as copies", x.count(6), 0);
        Check.due("how many pages there are", x.limit(0, NONE), 3);
        Check.due("to load the record by the fork", x.load(0, 1, 1), 500);
        Check.due("the parent's record", x.entry(0, 1, 4), 10);
    }

    // ---- regions

    private static void regions() {
        Check.terms("Regions are the rows of addresses, as long as can be, that are mapped alike");
        Pagewright x = new Pagewright();
        x.space(0);
        Check.due("none", x.about(0, 1), 0);
        x.map(0, 0, 1, 3, NONE, 0, false, false);
        Check.due("at the one end", x.about(0, 1), 1);
        x.map(0, 31, 1, 3, NONE, 0, false, false);
        Check.due("at both ends, which do not meet", x.about(0, 1), 2);
        x.map(0, 1, 30, 3, NONE, 0, false, false);
        Check.due("all alike", x.about(0, 1), 1);
        x.protect(0, 15, 1, 1);
        Check.due("other rights in the middle", x.about(0, 1), 3);
        x.protect(0, 16, 16, 1);
        Check.due("other rights from the middle on", x.about(0, 1), 2);
        x.unmap(0, 0, 1);
        Check.due("without the first one", x.about(0, 1), 2);
        x.unmap(0, 20, 1);
        Check.due("with a gap", x.about(0, 1), 3);
        x.map(0, 20, 1, 1, NONE, 0, false, true);
        Check.due("with one that grows in the gap", x.about(0, 1), 4);
        // Entries do not matter.
        Pagewright y = Check.withSpace(5, 6, 7);
        y.reclaim(1);
        y.load(0, 0, 9);
        Check.due("with entries that differ", y.about(0, 1), 1);
        y.fork(0);
        y.merge(0, true);
        y.scan(32);
        Check.due("behind a fork and a scan", y.about(0, 1), 1);
    }

    private static void regionsOfFiles() {
        Check.terms("those of files with indices that go on.");
        int[][] next = {
            // file, index, shared, rights, grows of the one behind the file 1's index 3, and whether it goes on
            {1, 4, 0, 3, 0, 1}, {1, 3, 0, 3, 0, 0}, {1, 5, 0, 3, 0, 0}, {1, 2, 0, 3, 0, 0}, {2, 4, 0, 3, 0, 0},
            {0, 4, 0, 3, 0, 0}, {1, 4, 1, 3, 0, 0}, {1, 4, 0, 1, 0, 0}, {1, 4, 0, 3, 1, 0}, {NONE, 4, 0, 3, 0, 0},
        };
        for (int[] n : next) {
            Pagewright x = new Pagewright();
            x.space(0);
            x.map(0, 8, 2, 3, 1, 2, false, false);
            Check.due("one of file " + n[0] + ", index " + n[1] + ", shared " + n[2] + ", rights " + n[3] + ", grows "
                    + n[4], x.map(0, 10, 1, n[3], n[0], n[1], n[2] == 1, n[4] == 1), n[5] == 1 ? 1 : 2);
        }
        Pagewright x = new Pagewright();
        x.space(0);
        Check.due("all indices", x.map(0, 0, 8, 3, 0, 0, false, false), 1);
        Check.due("from the last index to the first one of the next file", x.map(0, 8, 8, 3, 1, 0, false, false), 2);
        Check.due("from the last index to the first one of the same", x.map(0, 16, 8, 3, 1, 0, false, false), 3);
        Check.due("one that is moved away", x.move(0, 3, 1, 30), 5);
        Check.due("and to where its index goes on", x.move(0, 30, 1, 3), 3);
    }

    // ---- blocks

    private static void blocks() {
        Check.terms("A block is four addresses, the first one a multiple of 4");
        Pagewright x = Check.withSpace(new int[12]);
        for (int a = 1; a < 4; a++) {
            int address = a;
            Check.badArgument("join of " + a, x, on -> on.join(0, address));
        }
        Check.due("join of 4", x.join(0, 4), 1);
        for (int a = 0; a < 12; a++) {
            Check.due("whether " + a + " is in it", x.entry(0, a, 5), a >= 4 && a < 8 ? 1 : 0);
        }
        Check.terms("It is one no more when one of these entries gets another page");
        Pagewright y = Check.withSpace(1, 2, 3, 4);
        y.join(0, 0);
        y.unmap(0, 3, 1);
        Check.badState("join with one that is not mapped", y, on -> on.join(0, 0));
        y.map(0, 3, 1, 3, NONE, 0, false, false);
        y.load(0, 0, 3);
        Check.due("whether it is one again by itself", y.entry(0, 0, 5), 0);
        Check.due("join again", y.join(0, 0), 1);
    }

    private static void blocksAlike() {
        Check.terms("that are mapped alike, of nothing");
        for (int odd = 0; odd < 4; odd++) {
            int at = odd;
            Pagewright rights = Check.withSpace(1, 2, 3, 4);
            rights.protect(0, at, 1, 2);
            Check.badState("rights differ at " + at, rights, on -> on.join(0, 0));
            rights.protect(0, 0, 4, 2);
            Check.due("all of other rights", rights.join(0, 0), 1);
            Pagewright grows = Check.withSpace(1, 2, 3, 4);
            grows.unmap(0, at, 1);
            grows.map(0, at, 1, 3, NONE, 0, false, true);
            grows.store(0, 0, at, 5);
            Check.badState("one that grows at " + at, grows, on -> on.join(0, 0));
            Pagewright gap = Check.withSpace(1, 2, 3, 4);
            gap.unmap(0, at, 1);
            Check.badState("one that is not mapped at " + at, gap, on -> on.join(0, 0));
            Pagewright file = Check.withSpace(1, 2, 3, 4);
            file.unmap(0, at, 1);
            file.map(0, at, 1, 3, 1, at, false, false);
            file.store(0, 0, at, 5);
            Check.badState("one of a file at " + at, file, on -> on.join(0, 0));
        }
        Pagewright all = spaces(0);
        all.unmap(0, 0, 4);
        all.map(0, 0, 4, 3, 1, 0, false, false);
        for (int a = 0; a < 4; a++) {
            all.store(0, 0, a, 5);
        }
        Check.badState("all of a file, with loose pages", all, on -> on.join(0, 0));
        Pagewright growing = spaces(0);
        growing.unmap(0, 0, 4);
        growing.map(0, 0, 4, 3, NONE, 0, false, true);
        for (int a = 0; a < 4; a++) {
            growing.load(0, 0, a);
        }
        Check.due("all that grow, none writable", growing.join(0, 0), 1);
    }

    private static void blocksWithPages() {
        Check.terms("with entries that are PRESENT, and have loose pages that no other entries have");
        for (int odd = 0; odd < 4; odd++) {
            int at = odd;
            Pagewright absent = Check.withSpace(1, 2, 3, 4);
            absent.unmap(0, at, 1);
            absent.map(0, at, 1, 3, NONE, 0, false, false);
            Check.badState("one that is ABSENT at " + at, absent, on -> on.join(0, 0));
            Pagewright out = spaces(0);
            out.store(0, 0, at, 5);
            out.reclaim(1);
            for (int a = 0; a < 4; a++) {
                Check.badState("one that is OUT or ABSENT still", out, on -> on.join(0, 0));
                if (a != at) {
                    out.load(0, 0, a);
                }
            }
            Check.badState("one that is OUT at " + at, out, on -> on.join(0, 0));
            out.load(0, 0, at);
            Check.due("when it is PRESENT", out.join(0, 0), 1);
            Pagewright other = Check.withSpace(1, 2, 3, 4);
            other.fork(0);
            other.unmap(1, 0, 32);
            Check.due("when no other has them", other.join(0, 0), 1);
            other.fork(0);
            for (int a = 0; a < 4; a++) {
                if (a != at) {
                    other.unmap(2, a, 1);
                }
            }
            Check.badState("one that another has at " + at, other, on -> on.join(0, 0));
            Pagewright merged = toMerge(1, 2, 3, 4);
            merged.store(0, 0, at, 9);
            merged.store(0, 0, 4, 9);
            merged.scan(5);
            merged.unmap(0, 4, 1);
            Check.due("merged, though no other has it", merged.frame(at, 6) * 10 + merged.frame(at, 4), 11);
            Check.badState("one that is merged at " + at, merged, on -> on.join(0, 0));
            merged.store(0, 0, at, 8);
            Check.due("when it is merged no more", merged.join(0, 0), 1);
        }
    }

    /** A block at 4 and one at 8, with pages of values from 1 on at the addresses 0 to 11; all is to be merged. */
    private static Pagewright withBlocks() {
        Pagewright x = toMerge(1, 2, 3, 4, 5, 6, 7, 8, 9, 10, 11, 12);
        x.join(0, 4);
        x.join(0, 8);
        return x;
    }

    /** The same, with the page of this address evicted, as it is the first one in IDLE behind those of no block. */
    private static Pagewright withoutPage(int at) {
        Pagewright x = new Pagewright();
        x.space(0);
        x.map(0, 0, 32, 3, NONE, 0, false, false);
        x.store(0, 0, at, 5);
        for (int a = 4; a < 12; a++) {
            if (a != at) {
                x.store(0, 0, a, 5);
            }
        }
        x.join(0, 4);
        x.join(0, 8);
        x.reclaim(1);
        return x;
    }

    private static void ended(String what, Pagewright x, int at) {
        Check.due(what + " at " + at + ": the block", x.entry(0, 4 + (at + 1) % 4, 5), 0);
        Check.due(what + " at " + at + ": the other block", x.entry(0, 8, 5), 1);
        Check.due(what + " at " + at + ": blocks", x.about(0, 4), 1);
    }

    private static void blocksEnd() {
        Check.terms("gets another page, or none, is gone, moved, protected or forked, or when its page is merged.");
        for (int at = 4; at < 8; at++) {
            Pagewright another = withBlocks();
            another.store(0, 0, at, 3);
            another.scan(12);
            Check.due("the page that it got", another.entry(0, at, 2), 2);
            ended("it gets another page", another, at);
            Pagewright none = withoutPage(at);
            Check.due("the one that was evicted", none.entry(0, at, 1), Pagewright.OUT);
            ended("it gets none", none, at);
            Pagewright gone = withBlocks();
            gone.unmap(0, at, 1);
            ended("it is gone", gone, at);
            Pagewright moved = withBlocks();
            moved.unmap(0, 30, 1);
            moved.move(0, at, 1, 30);
            ended("it is moved", moved, at);
            moved.move(0, 30, 1, at);
            ended("it is moved back", moved, at);
            Pagewright guarded = withBlocks();
            guarded.protect(0, at, 1, 3);
            ended("it is protected", guarded, at);
            Pagewright merged = withBlocks();
            merged.store(0, 0, 20, 1 + at);
            merged.scan(21);
            Check.due("the page that another one got", merged.entry(0, 20, 2), at);
            ended("its page is merged", merged, at);
        }
    }

    private static void blocksStay() {
        Check.terms("when they are joined. It is one no more when one of these entries");
        Pagewright x = withBlocks();
        x.load(1, 0, 4);
        x.store(0, 0, 7, 20);
        x.protect(0, 0, 4, 1);
        x.unmap(0, 12, 20);
        x.move(0, 3, 1, 12);
        x.write(0, 0, 4);
        x.sync(0);
        x.scan(12);
        Check.due("behind what concerns others", x.about(0, 4), 2);
        Pagewright fork = withBlocks();
        fork.fork(0);
        Check.due("blocks of one that was forked", fork.about(0, 4), 0);
        Check.due("blocks of the fork", fork.about(1, 4), 0);
        Pagewright ended = withBlocks();
        ended.end(0);
        Check.due("blocks of one that was ended", ended.about(0, 4), 0);
        Check.due("whether an address of it is in one", ended.entry(0, 4, 5), 0);
        Pagewright other = withBlocks();
        other.space(0);
        other.map(1, 4, 4, 3, NONE, 0, false, false);
        other.unmap(1, 4, 4);
        Check.due("behind what another space does", other.about(0, 4), 2);
    }

    // ---- scanning

    private static void scanning() {
        Check.terms("To scan goes through the addresses of living spaces that are told to be merged");
        // The page of 5 is in four spaces, of which the second one is not told, and the third one is dead.
        Pagewright x = spaces(0, 1, 2, 0);
        for (int i = 0; i < 4; i++) {
            x.store(0, i, i, 5);
            x.merge(i, i != 1);
        }
        x.end(2);
        Check.due("all of the living that are told", x.scan(64), 1);
        Check.due("the last one's page", x.entry(3, 3, 2), 0);
        Check.due("the page of the one that is not told", x.frame(x.entry(1, 1, 2), 4), 1);
        x.merge(1, true);
        Check.due("when that one is told", x.scan(96), 1);
        x.merge(1, false);
        x.store(0, 1, 1, 6);
        x.store(0, 0, 0, 6);
        Check.due("when it is told no more", x.scan(192), 0);
    }

    private static void scannedPlaces() {
        Check.terms("from space to space, on and on from where it was left");
        Pagewright x = spaces(0, 0);
        x.store(0, 0, 3, 5);
        x.store(0, 0, 31, 6);
        x.store(0, 1, 0, 6);
        x.store(0, 1, 31, 5);
        x.merge(0, true);
        x.merge(1, true);
        int gone = 0;
        int[] at = {33, 64};
        for (int number = 1; number <= 64; number++) {
            int changed = x.scan(1);
            Check.due("the address " + number, changed, number == at[0] || number == at[1] ? 1 : 0);
            gone += changed;
        }
        Check.due("all of them", gone, 2);
        // On from the end of the last space to the first one.
        Pagewright y = spaces(0, 0);
        y.store(0, 0, 0, 5);
        y.store(0, 0, 1, 5);
        y.merge(0, true);
        y.merge(1, true);
        y.scan(1);
        y.store(0, 0, 1, 6);
        Check.due("the rest of both", y.scan(63), 0);
        y.store(0, 0, 1, 5);
        Check.due("the first one again", y.scan(1), 0);
        Check.due("the second one again", y.scan(1), 1);
        // Where it was left is kept when nothing can be gone through.
        Pagewright z = toMerge(5, 6, 5);
        z.scan(2);
        z.merge(0, false);
        Check.due("when none is told", z.scan(192), 0);
        z.merge(0, true);
        Check.due("the third one, when it is told again", z.scan(1), 1);
    }

    private static void scannedEntries() {
        Check.terms("each that is PRESENT with a loose page that is not merged is looked at");
        Pagewright x = spaces(0);
        x.unmap(0, 0, 4);
        x.map(0, 0, 2, 3, 0, 0, true, false);
        x.map(0, 2, 2, 3, 0, 2, false, false);
        x.load(0, 0, 0);
        x.load(0, 0, 1);
        x.merge(0, true);
        Check.due("cached ones of the same value", x.scan(32), 0);
        x.store(0, 0, 2, 7);
        x.store(0, 0, 3, 7);
        Check.due("loose ones of a private file", x.scan(32), 1);
        x.load(0, 0, 8);
        Check.due("a loose one, with the value of cached ones", x.scan(32), 0);
        Pagewright out = toMerge(5, 5, 5);
        out.reclaim(1);
        Check.due("one that is OUT, and two that are not", out.scan(3), 1);
        out.load(0, 0, 0);
        Check.due("the one that was OUT, in the next round", out.scan(32), 1);
        Check.due("those that are merged, in the next", out.scan(32), 0);
        Check.due("rounds of what is not mapped", emptyOne().scan(192), 0);
    }

    private static Pagewright emptyOne() {
        Pagewright x = new Pagewright();
        x.space(0);
        x.merge(0, true);
        return x;
    }

    private static void mergedAlready() {
        Check.terms("if there is a merged page with its value, its entry gets that, not writable");
        Pagewright x = toMerge(5, 5, 6, 5);
        x.scan(2);
        x.load(1, 0, 3);
        int before = x.count(10);
        Check.due("the third one of the value", x.scan(2), 1);
        Check.due("its page", x.entry(0, 3, 2), 0);
        Check.due("writable", x.entry(0, 3, 3), 0);
        Check.due("who has it", x.frame(0, 4), 3);
        Check.due("messages to both that had its translation", x.count(10) - before, 2);
        x.handle(0);
        x.handle(1);
        Check.due("the frame of its own page", x.frame(3, 0), 0);
        Check.due("new pages as copies", x.count(6), 0);
        // Also one of a space that is not to be merged any more, from rounds before.
        Pagewright y = toMerge(5, 5);
        y.scan(32);
        y.merge(0, false);
        y.space(1);
        y.map(1, 0, 1, 3, NONE, 0, false, false);
        y.store(0, 1, 0, 5);
        y.merge(1, true);
        Check.due("one of another space", y.scan(32), 1);
        Check.due("its page", y.entry(1, 0, 2), 0);
        // It goes ahead of one that was looked at.
        Pagewright z = toMerge(4, 5, 5, 5);
        z.scan(3);
        z.store(0, 0, 0, 5);
        Check.due("the merged one first", z.scan(1), 1);
        Check.due("its page", z.entry(0, 3, 2), 1);
        Check.due("the one that was looked at", z.frame(0, 4), 1);
    }

    private static void mergedAnew() {
        Check.terms("both entries get the page of that one, not writable, which is merged then.");
        Pagewright x = toMerge(5, 5);
        x.load(1, 0, 0);
        Check.due("both", x.scan(2), 1);
        Check.due("the first one's page", x.entry(0, 0, 2), 0);
        Check.due("the second one's page", x.entry(0, 1, 2), 0);
        Check.due("the first one, writable", x.entry(0, 0, 3), 0);
        Check.due("the second one, writable", x.entry(0, 1, 3), 0);
        Check.due("merged", x.frame(0, 6), 1);
        Check.due("who has it", x.frame(0, 4), 2);
        Check.due("messages", x.count(10), 3);
        x.handle(0);
        Check.due("the frame of the second page", x.frame(1, 0), 0);
        Check.due("to store into the first one", x.store(0, 0, 0, 6), 5);
        Check.due("a copy", x.count(6), 1);
        Check.due("the second one's value", x.load(0, 0, 1), 5);
        Check.terms("has another page with its value");
        Pagewright values = toMerge(5, 6, 0, 99999);
        Check.due("other values", values.scan(4), 0);
        Check.due("the value of one that is ABSENT", values.scan(28), 0);
        // A fork has the same page, which is no other one.
        Pagewright fork = toMerge(5);
        fork.fork(0);
        Check.due("the same page", fork.scan(64), 0);
        Check.due("merged", fork.frame(0, 6), 0);
        fork.store(0, 1, 9, 5);
        Check.due("another page, behind the same twice", fork.scan(64), 1);
        Check.due("who has it", fork.frame(0, 4), 3);
    }

    private static void firstSuch() {
        Check.terms("has another page with its value (the first such)");
        Pagewright x = toMerge(1, 2, 3, 7);
        x.scan(3);
        x.store(0, 0, 2, 7);
        x.store(0, 0, 1, 7);
        Check.due("of two that were looked at", x.scan(1), 1);
        Check.due("the page", x.entry(0, 3, 2), 1);
        Check.due("who has the other one's", x.frame(2, 4), 1);
        Pagewright y = spaces(0, 0, 0);
        for (int i = 0; i < 3; i++) {
            y.store(0, i, 9 - i, 1 + i);
            y.merge(i, true);
        }
        y.scan(64);
        y.store(0, 1, 8, 3);
        y.store(0, 0, 9, 3);
        Check.due("of two of spaces", y.scan(32), 1);
        Check.due("the page", y.entry(2, 7, 2), 0);
        // The first one has the same page: so the first such is the second one.
        Pagewright z = toMerge(5, 6);
        z.fork(0);
        z.store(0, 0, 1, 7);
        z.scan(32);
        z.store(0, 0, 1, 5);
        Check.due("the fork's first one", z.scan(1), 1);
        Check.due("its page", z.entry(1, 0, 2), z.entry(0, 1, 2));
        Check.due("the first one's page", z.frame(z.entry(0, 0, 2), 6), 0);
    }

    private static void lookedAtInThisRound() {
        Check.terms("otherwise, if one that was looked at in this round, got no other page as it was");
        Pagewright x = toMerge(5, 6);
        x.scan(1);
        x.store(0, 0, 1, 5);
        x.scan(31);
        x.store(0, 0, 1, 6);
        x.store(0, 0, 0, 6);
        // The first one is looked at again; one of the last round is not enough for it.
        Check.due("the first one of the next round", x.scan(1), 0);
        Check.due("the second one of it", x.scan(1), 1);
        // What was not PRESENT as the scan came by was not looked at.
        Pagewright y = toMerge();
        y.store(0, 0, 5, 4);
        y.scan(3);
        y.store(0, 0, 1, 4);
        Check.due("up to the sixth one", y.scan(3), 0);
        Check.due("up to the second one of the next round", y.scan(28), 0);
        Check.due("up to the sixth one of that", y.scan(4), 1);
        // One that got another page as it was looked at does not count, though it has one of its own then.
        Pagewright z = toMerge(4, 4, 0, 8);
        z.scan(2);
        z.store(0, 0, 1, 8);
        Check.due("the one with the value that it has then", z.scan(2), 0);
        Check.due("the page", z.frame(z.entry(0, 3, 2), 4), 1);
    }

    private static void stillLikeThat() {
        Check.terms("and still is like that");
        Pagewright x = toMerge(4, 0, 4, 4);
        x.scan(1);
        x.reclaim(1);
        Check.due("the first one, OUT", x.entry(0, 0, 1), Pagewright.OUT);
        Check.due("the third one", x.scan(2), 0);
        x.load(0, 0, 0);
        Check.due("the fourth one, as the first one is PRESENT", x.scan(1), 1);
        Check.due("its page, the first such", x.entry(0, 3, 2), x.entry(0, 0, 2));
        // One that is merged since is not like that; when it is merged no more it is.
        Pagewright y = toMerge(4, 4, 4, 9, 9);
        y.scan(2);
        y.store(0, 0, 1, 6);
        Check.due("merged, with one that has it", y.frame(0, 6) * 10 + y.frame(0, 4), 11);
        y.store(0, 0, 0, 9);
        Check.due("merged no more", y.frame(0, 6), 0);
        Check.due("the third one", y.scan(1), 0);
        Check.due("the fourth one", y.scan(1), 1);
        Check.due("its page, that of the first one", y.entry(0, 3, 2), 0);
        Check.due("the fifth one, by the merged page", y.scan(1), 1);
        Pagewright z = spaces(0, 0);
        z.store(0, 0, 0, 5);
        z.store(0, 1, 0, 5);
        z.merge(0, true);
        z.merge(1, true);
        z.scan(32);
        z.end(0);
        Check.due("when the other one's space is dead", z.scan(32), 0);
    }

    private static void roundsEnd() {
        Check.terms("A round ends behind the address 31 of the space 5, whether there is one or not.");
        // With six spaces: what was looked at in the last address counts no more in the first one.
        Pagewright x = new Pagewright();
        for (int i = 0; i < 6; i++) {
            x.space(0);
            x.merge(i, true);
        }
        x.map(0, 0, 1, 3, NONE, 0, false, false);
        x.map(5, 31, 1, 3, NONE, 0, false, false);
        x.store(0, 0, 0, 4);
        x.store(0, 5, 31, 5);
        Check.due("one round", x.scan(192), 0);
        x.store(0, 0, 0, 5);
        Check.due("the first one of the next round", x.scan(1), 0);
        Check.due("the rest of the next round", x.scan(191), 1);
        // With one space, whose address 0 follows behind the address 31, in another round.
        Pagewright y = toMerge(4);
        y.store(0, 0, 31, 5);
        Check.due("one round", y.scan(32), 0);
        y.store(0, 0, 0, 5);
        Check.due("the first one of the next round", y.scan(1), 0);
        Check.due("the rest of the next round", y.scan(31), 1);
        // It has not ended behind the address 31 of the space 0: one of a space that is told then counts to it.
        Pagewright z = spaces(0, 0);
        z.store(0, 0, 0, 5);
        z.store(0, 1, 0, 5);
        z.merge(0, true);
        z.scan(32);
        z.merge(1, true);
        Check.due("the first one of the other space", z.scan(1), 1);
        // Also of one that there was not by then.
        Pagewright made = toMerge(5);
        made.scan(32);
        made.space(0);
        made.map(1, 0, 32, 3, NONE, 0, false, false);
        made.store(0, 1, 31, 5);
        made.merge(1, true);
        Check.due("the other space", made.scan(32), 1);
        // Nor does it end within a space, however many scans there are.
        Pagewright w = toMerge(5);
        w.store(0, 0, 31, 5);
        for (int i = 0; i < 31; i++) {
            Check.due("one by one", w.scan(1), 0);
        }
        Check.due("the last one", w.scan(1), 1);
    }

    private static void otherEntries() {
        Check.terms("(An entry of an address that was unmapped, or from which or to which was moved");
        // In each of these 0 was looked at with the value 4, which 3 has too.
        Pagewright same = toMerge(4, 1, 2, 4);
        same.scan(1);
        Check.due("the same one", same.scan(3), 1);
        Pagewright gone = toMerge(4, 1, 2, 4);
        gone.scan(1);
        gone.unmap(0, 0, 1);
        gone.map(0, 0, 1, 3, NONE, 0, false, false);
        gone.store(0, 0, 0, 4);
        Check.due("unmapped, and mapped again", gone.scan(3), 0);
        Pagewright from = toMerge(4, 1, 2, 4);
        from.scan(1);
        from.unmap(0, 31, 1);
        from.move(0, 0, 1, 31);
        Check.due("moved away", from.scan(3), 0);
        Check.due("where it was moved to, when that is looked at", from.scan(28), 1);
        Pagewright back = toMerge(4, 1, 2, 4);
        back.scan(1);
        back.unmap(0, 31, 1);
        back.move(0, 0, 1, 31);
        back.move(0, 31, 1, 0);
        Check.due("moved away, and back", back.scan(3), 0);
        Pagewright to = toMerge(9, 1, 2, 4);
        to.store(0, 0, 20, 4);
        to.scan(1);
        to.unmap(0, 0, 1);
        to.move(0, 20, 1, 0);
        Check.due("one that comes to it", to.scan(3), 0);
    }
}
