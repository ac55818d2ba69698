/** Promises 19 to 21: join, merge, scan. */
public final class MergingTest {
    private MergingTest() {
    }

    public static void main(String[] args) {
        joins();
        noBlocks();
        blocksEnd();
        merges();
        firstSuch();
        stillLikeThat();
        rounds();
        forkedPages();
        whoIsMerged();
        Check.finish("MergingTest");
    }

    private static void joins() {
        Pagewright x = Check.withSpace(1, 2, 3, 4, 5, 6, 7, 8);
        Check.due("join", x.join(0, 4), 1);
        Check.due("whether an address is in a block", x.entry(0, 7, 5), 1);
        Check.due("whether another is", x.entry(0, 3, 5), 0);
        Check.badState("join of what is one", x, on -> on.join(0, 4));
        Check.due("join of the next", x.join(0, 0), 2);
        Check.due("blocks", x.about(0, 4), 2);
        for (int a = 28; a < 32; a++) {
            x.load(0, 0, a);
        }
        Check.due("join of the last four, none writable", x.join(0, 28), 3);
        x.store(0, 0, 28, 5);
        Check.due("blocks, as to store gives no other page", x.about(0, 4), 3);
    }

    private static void noBlocks() {
        Pagewright x = Check.withSpace(1, 2, 3);
        Check.badState("join with one that is ABSENT", x, on -> on.join(0, 0));
        x.store(0, 0, 3, 4);
        x.protect(0, 3, 1, 1);
        Check.badState("join with one of other rights", x, on -> on.join(0, 0));
        x.protect(0, 3, 1, 3);
        x.fork(0);
        Check.badState("join with pages that others have", x, on -> on.join(0, 0));
        x.end(1);
        Check.due("join without these", x.join(0, 0), 1);
        x.space(0);
        x.map(2, 0, 4, 3, 0, 0, true, false);
        for (int a = 0; a < 4; a++) {
            x.load(0, 2, a);
        }
        Check.badState("join of a file's", x, on -> on.join(2, 0));
        x.unmap(2, 0, 4);
        x.map(2, 0, 4, 3, 0, 0, false, false);
        for (int a = 0; a < 4; a++) {
            x.store(0, 2, a, 1);
        }
        Check.badState("join of a private file's loose pages", x, on -> on.join(2, 0));
        Check.badState("join of what is not mapped", x, on -> on.join(2, 4));
        Check.badState("join in a dead space", x, on -> on.join(1, 0));
        x.unmap(2, 0, 4);
        x.map(2, 0, 2, 3, -1, 0, false, false);
        x.map(2, 2, 2, 3, -1, 0, false, true);
        for (int a = 0; a < 4; a++) {
            x.store(0, 2, a, 1);
        }
        Check.badState("join with some that grow", x, on -> on.join(2, 0));
        Pagewright y = Check.withSpace(5, 5, 1, 2);
        y.merge(0, true);
        y.scan(4);
        y.unmap(0, 1, 1);
        y.map(0, 1, 1, 3, -1, 0, false, false);
        y.store(0, 0, 1, 6);
        Check.due("who has the page", y.frame(y.entry(0, 0, 2), 4), 1);
        Check.badState("join with one that is merged", y, on -> on.join(0, 0));
        y.store(0, 0, 0, 7);
        Check.due("join, as it is merged no more", y.join(0, 0), 1);
    }

    private static void blocksEnd() {
        Pagewright x = Check.withSpace(1, 2, 3, 4);
        x.join(0, 0);
        x.reclaim(1);
        Check.due("blocks behind an eviction", x.about(0, 4), 0);
        x.load(0, 0, 0);
        Check.due("join again", x.join(0, 0), 1);
        x.protect(0, 2, 1, 3);
        Check.due("blocks behind protecting", x.about(0, 4), 0);
        x.join(0, 0);
        x.unmap(0, 3, 1);
        Check.due("blocks behind unmapping", x.about(0, 4), 0);
        x.map(0, 3, 1, 3, -1, 0, false, false);
        x.load(0, 0, 3);
        x.join(0, 0);
        x.unmap(0, 10, 1);
        x.move(0, 1, 1, 10);
        Check.due("blocks behind moving", x.about(0, 4), 0);
        x.move(0, 10, 1, 1);
        Check.due("join behind moving back", x.join(0, 0), 1);
        x.fork(0);
        Check.due("blocks behind a fork", x.about(0, 4), 0);
        Check.due("blocks of the fork", x.about(1, 4), 0);
        x.end(1);
        x.join(0, 0);
        x.end(0);
        Check.due("blocks of a dead one", x.about(0, 4), 0);
        Pagewright y = Check.withSpace(1, 2, 3, 4, 1);
        y.join(0, 0);
        y.merge(0, true);
        Check.due("scan", y.scan(5), 1);
        Check.due("blocks, as a page is merged", y.about(0, 4), 0);
        Pagewright z = Check.withSpace(9, 0, 0, 0, 9, 2, 3, 4);
        z.join(0, 4);
        z.merge(0, true);
        z.scan(5);
        Check.due("blocks, as an entry gets another page", z.about(0, 4), 0);
    }

    private static void merges() {
        Pagewright x = Check.withSpace(5, 6, 5, 5, 6);
        Check.due("scan when no space is told", x.scan(192), 0);
        x.merge(0, true);
        Check.due("scan of the first two", x.scan(2), 0);
        Check.due("scan of the third, on from there", x.scan(1), 1);
        Check.due("the page", x.entry(0, 2, 2), 0);
        Check.due("whether it is merged", x.frame(0, 6), 1);
        Check.due("who has it", x.frame(0, 4), 2);
        Check.due("whether the first is writable", x.entry(0, 0, 3), 0);
        Check.due("messages: for 0 that left none, for 2 one", x.count(10), 1);
        Check.due("scan of the next two", x.scan(2), 2);
        Check.due("who has it", x.frame(0, 4), 3);
        Check.due("the other page", x.entry(0, 4, 2), 1);
        Check.due("copies", x.count(6), 0);
        Check.due("to store into it", x.store(0, 0, 3, 8), 5);
        Check.due("a copy", x.count(6), 1);
        x.unmap(0, 2, 1);
        Check.due("whether it is merged with one that has it", x.frame(0, 6), 1);
        x.store(0, 0, 0, 9);
        Check.due("whether it is merged behind a store", x.frame(0, 6), 0);
        Check.due("its page is the same", x.entry(0, 0, 2), 0);
        x.merge(0, false);
        Check.due("scan when none is told any more", x.scan(192), 0);
    }

    private static void firstSuch() {
        Pagewright x = Check.withSpace(1, 7, 7, 1);
        x.merge(0, true);
        x.scan(1);
        x.store(0, 0, 0, 7);
        Check.due("scan: the value counts as it is then", x.scan(1), 1);
        Check.due("the page of the first such", x.entry(0, 1, 2), 0);
        Check.due("scan: a merged page comes first", x.scan(1), 1);
        Check.due("its page", x.entry(0, 2, 2), 0);
        Check.due("scan: none such", x.scan(1), 0);
    }

    private static void stillLikeThat() {
        // The one that was looked at is OUT, and then has another page, which counts.
        Pagewright x = Check.withSpace(4, 0, 4, 4);
        x.merge(0, true);
        x.scan(1);
        x.reclaim(1);
        Check.due("the first one is OUT", x.entry(0, 0, 1), 2);
        Check.due("scan without it", x.scan(2), 0);
        x.load(0, 0, 0);
        Check.due("scan: the first such", x.scan(1), 1);
        Check.due("its page", x.entry(0, 3, 2), x.entry(0, 0, 2));
        // One that was unmapped, or moved, since then is another one.
        Pagewright y = Check.withSpace(4, 5, 0, 5, 4, 6, 6, 0);
        y.merge(0, true);
        y.scan(3);
        y.unmap(0, 0, 1);
        y.map(0, 0, 1, 3, -1, 0, false, false);
        y.store(0, 0, 0, 4);
        y.unmap(0, 20, 1);
        y.move(0, 1, 1, 20);
        y.move(0, 20, 1, 1);
        Check.due("scan of 3 and 4", y.scan(2), 0);
        Check.due("scan of 5", y.scan(1), 0);
        y.move(0, 5, 1, 20);
        Check.due("scan of 6", y.scan(1), 0);
        // One that got another page as it was looked at is none, though it is like that again.
        Pagewright z = Check.withSpace(4, 4, 0, 8);
        z.merge(0, true);
        Check.due("scan of 0 and 1", z.scan(2), 1);
        z.store(0, 0, 1, 8);
        Check.due("scan of 2 and 3", z.scan(2), 0);
        // The one whose page it was is still one when the page is merged no more.
        z.store(0, 0, 0, 9);
        z.store(0, 0, 4, 9);
        Check.due("scan of 4", z.scan(1), 1);
        Check.due("its page", z.entry(0, 4, 2), 0);
    }

    private static void rounds() {
        Pagewright x = Check.withSpace(4);
        x.store(0, 0, 31, 5);
        x.merge(0, true);
        Check.due("scan of one round", x.scan(32), 0);
        x.store(0, 0, 0, 5);
        // The next address is 0 of the space 0 again, in a round that has looked at none.
        Check.due("scan of the next round's first", x.scan(1), 0);
        Check.due("scan up to its last", x.scan(31), 1);
        Check.due("the page", x.entry(0, 31, 2), 0);
        // From space to space, past those that are not told.
        Pagewright y = Check.withSpace(4);
        y.space(0);
        y.space(1);
        y.map(1, 0, 1, 3, -1, 0, false, false);
        y.map(2, 0, 1, 3, -1, 0, false, false);
        y.store(0, 1, 0, 4);
        y.store(0, 2, 0, 4);
        y.merge(0, true);
        y.merge(2, true);
        Check.due("scan up to the third space", y.scan(33), 1);
        Check.due("its page", y.entry(2, 0, 2), 0);
        Check.due("the page's group", y.frame(0, 5), 0);
        Check.due("scan of the rest", y.scan(31), 0);
        y.merge(1, true);
        Check.due("scan of the second space in the next round", y.scan(33), 1);
        y.end(1);
        Check.due("scan past a dead one", y.scan(192), 0);
        Check.due("who has the page", y.frame(0, 4), 2);
        // What is left off in a space that is told later goes on in the same round.
        Pagewright z = Check.withSpace(4);
        z.space(0);
        z.map(1, 0, 1, 3, -1, 0, false, false);
        z.store(0, 1, 0, 4);
        z.merge(0, true);
        z.scan(32);
        z.merge(1, true);
        Check.due("scan of the second space in the same round", z.scan(1), 1);
    }

    private static void forkedPages() {
        Pagewright x = Check.withSpace(4);
        x.merge(0, true);
        x.fork(0);
        Check.due("scan: the same page is no other", x.scan(64), 0);
        Check.due("whether it is merged", x.frame(0, 6), 0);
        x.store(0, 0, 1, 4);
        // In the next round the page of both is the first such, and the fork's entry has a merged one then.
        Check.due("scan", x.scan(64), 1);
        Check.due("who has it", x.frame(0, 4), 3);
        Check.due("whether it is merged", x.frame(0, 6), 1);
        // The other way round, the two follow one after the other.
        Pagewright y = Check.withSpace(3, 4);
        y.fork(0);
        y.store(0, 0, 0, 4);
        y.merge(0, true);
        y.merge(1, true);
        Check.due("scan", y.scan(64), 2);
        Check.due("who has the page", y.frame(y.entry(0, 0, 2), 4), 3);
    }

    private static void whoIsMerged() {
        Pagewright x = Check.withSpace(4, 4);
        x.merge(0, true);
        x.fork(0);
        x.merge(0, false);
        x.store(0, 1, 0, 4);
        x.store(0, 1, 1, 4);
        Check.due("scan of the fork, as its parent was", x.scan(192), 1);
        Check.due("the parent's are not", x.entry(0, 0, 2) == x.entry(0, 1, 2) ? 1 : 0, 0);
        x.end(0);
        x.merge(0, true);
        Check.due("scan when a dead one is told", x.scan(192), 0);
        // Cached pages are not looked at.
        Pagewright y = new Pagewright();
        y.space(0);
        y.map(0, 0, 2, 3, 0, 0, true, false);
        y.load(0, 0, 0);
        y.load(0, 0, 1);
        y.merge(0, true);
        Check.due("scan of cached ones", y.scan(64), 0);
    }
}
