import java.util.Arrays;
import java.util.function.Supplier;

/** Promises 17 to 21, sentence by sentence: the last values allowed, the first ones not allowed, empty and full. */
public final class ReclaimEdgesTest {
    private static final int LOW = Integer.MIN_VALUE;
    private static final int HIGH = Integer.MAX_VALUE;
    private static final int[] NO_SPACES = {-1, 3, 6, LOW, HIGH};
    private static final Supplier<Pagewright> BUSY = Check::busy;

    private ReclaimEdgesTest() {
    }

    public static void main(String[] args) {
        reclaims();
        handles();
        joins();
        joinsRefused();
        merges();
        scans();
        scansCount();
        Check.finish("ReclaimEdgesTest");
    }

    private static void reclaims() {
        Check.promise(17, "`pages`: 1 to 24");
        int[] ones = new int[24];
        Pagewright x = Check.withSpace(ones);
        Check.due("reclaim of 1", x.reclaim(1), 1);
        Check.due("pages evicted", x.count(2), 1);
        Pagewright full = new Pagewright();
        for (int i = 0; i < 24; i++) {
            full.read(i / 8, i % 8);
        }
        Check.due("reclaim of 24", full.reclaim(24), 24);
        Check.due("pages evicted", full.count(2), 24);
        for (int f = 0; f < 24; f++) {
            Check.due("frame(" + f + ", 0)", full.frame(f, 0), 0);
        }
        Pagewright most = new Pagewright();
        for (int i = 0; i < 24; i++) {
            most.read(i / 8, i % 8);
        }
        Check.due("reclaim of 23", most.reclaim(23), 23);
        Check.due("pages left", most.limit(0, -1), 1);
        Check.promise(17, "Evicts pages of all.");
        Pagewright y = new Pagewright();
        for (int group = 0; group <= 2; group++) {
            y.space(group);
            y.map(group, 0, 1, 3, -1, 0, false, false);
            y.load(0, group, 0);
        }
        y.limit(1, 24);
        Check.due("of all groups", y.reclaim(3), 3);
        Check.due("the entry of the group 0", y.entry(0, 0, 1), Pagewright.OUT);
        Check.due("the entry of the group 2", y.entry(2, 0, 1), Pagewright.OUT);
        Check.promise(17, "Returns how many were evicted: fewer, if one could not be.");
        Check.due("reclaim when there is none", new Pagewright().reclaim(1), 0);
        Check.due("reclaim of 24 when there is none", new Pagewright().reclaim(24), 0);
        Pagewright one = Check.withSpace(1);
        Check.due("reclaim of 2 when there is one", one.reclaim(2), 1);
        int[] large = new int[11];
        Arrays.fill(large, 99999);
        Pagewright z = Check.withSpace(large);
        Check.due("reclaim of 11 with room for 10", z.reclaim(11), 10);
        Check.due("reclaim of one that has no room", z.reclaim(1), 0);
        Check.due("pages evicted", z.count(2), 10);
        Check.due("spaces killed for reclaim", z.count(7), 0);
        Check.promise(17, "Throws `IllegalArgumentException` if pages is out of range");
        for (int pages : new int[] {0, 25, -1, LOW, HIGH}) {
            Check.badArgument("reclaim of " + pages, BUSY, q -> q.reclaim(pages));
            Check.badArgument("reclaim of " + pages + " when there is none", Pagewright::new, q -> q.reclaim(pages));
        }
    }

    private static void handles() {
        Check.promise(18, "`processor`: 0 or 1");
        Pagewright x = Check.withSpace(1, 2);
        x.load(1, 0, 1);
        x.unmap(0, 0, 2);
        Check.due("handle of 1", x.handle(1), 1);
        Check.due("handle of 0", x.handle(0), 2);
        Check.promise(18, "Lets a processor handle its messages.");
        Check.due("messages that wait", x.count(10), 0);
        Check.due("the first frame", x.frame(0, 0), 0);
        Check.due("the second frame", x.frame(1, 0), 0);
        Check.promise(18, "Returns how many it had.");
        Check.due("handle of 0 when there is none", x.handle(0), 0);
        Check.due("handle of 1 of a new object", new Pagewright().handle(1), 0);
        Pagewright y = Check.withSpace(1, 2, 3, 4, 5, 6);
        y.unmap(0, 0, 32);
        Check.due("handle with as many as its cache holds", y.handle(0), 4);
        Pagewright z = Check.withSpace(1, 2, 3, 4);
        z.unmap(0, 1, 2);
        Check.due("handle with two of four", z.handle(0), 2);
        z.load(0, 0, 0);
        z.load(0, 0, 3);
        Check.due("hits of the two others", z.count(0), 2);
        // Of two that left, one comes again, and gets a message.
        Pagewright again = Check.withSpace(1, 2, 3, 4);
        again.protect(0, 0, 2, 3);
        Check.due("handle of two", again.handle(0), 2);
        again.store(0, 0, 1, 5);
        again.protect(0, 0, 2, 3);
        Check.due("messages that wait", again.count(10), 1);
        Check.due("handle of one that came again", again.handle(0), 1);
        Check.promise(18, "Throws `IndexOutOfBoundsException` if there is no such processor");
        for (int processor : new int[] {-1, 2, LOW, HIGH}) {
            Check.noSpace("handle of " + processor, BUSY, q -> q.handle(processor));
        }
    }

    private static void joins() {
        Check.promise(19, "`space`: a space");
        Pagewright x = new Pagewright();
        for (int i = 0; i < 6; i++) {
            x.space(0);
        }
        for (int space : new int[] {0, 5}) {
            x.map(space, 0, 4, 3, -1, 0, false, false);
            for (int a = 0; a < 4; a++) {
                x.load(0, space, a);
            }
            Check.due("join in the space " + space, x.join(space, 0), 1);
        }
        Check.due("blocks of the space 1", x.about(1, 4), 0);
        Check.promise(19, "`address`: the first one: 0 to 28");
        Pagewright y = Check.withSpace();
        for (int a : new int[] {0, 1, 2, 3, 28, 29, 30, 31}) {
            y.load(0, 0, a);
        }
        Check.due("join of 0", y.join(0, 0), 1);
        Check.due("whether 3 is in a block", y.entry(0, 3, 5), 1);
        Check.due("whether 4 is in a block", y.entry(0, 4, 5), 0);
        Check.due("join of 28", y.join(0, 28), 2);
        Check.due("whether 27 is in a block", y.entry(0, 27, 5), 0);
        Check.due("whether 31 is in a block", y.entry(0, 31, 5), 1);
        Check.promise(19, "Joins four addresses to a block.");
        Check.due("whether the first one is in a block", y.entry(0, 28, 5), 1);
        Check.due("the entries stay", y.entry(0, 28, 1), Pagewright.PRESENT);
        Check.promise(19, "Returns how many blocks the space has then.");
        Pagewright z = Check.withSpace(new int[24]);
        for (int block = 0; block < 6; block++) {
            Check.due("one more", z.join(0, 4 * block), block + 1);
        }
        z.unmap(0, 23, 1);
        Check.due("blocks when one is none any more", z.about(0, 4), 5);
    }

    private static void joinsRefused() {
        Check.promise(19, "Throws `IndexOutOfBoundsException` if there is no such space");
        for (int space : NO_SPACES) {
            Check.noSpace("join in the space " + space, BUSY, x -> x.join(space, 0));
            Check.noSpace("join in no space of no address", BUSY, x -> x.join(space, 1));
        }
        Check.promise(19, "Throws `IllegalArgumentException` if address is out of range, or no multiple of 4");
        for (int address : new int[] {-1, -4, 29, 30, 31, 32, 36, LOW, HIGH, 1, 2, 3, 5, 26, 27}) {
            Check.badArgument("join of " + address, BUSY, x -> x.join(0, address));
            Check.badArgument("join of " + address + " in a dead one", BUSY, x -> x.join(1, address));
        }
        Check.promise(19, "Throws `IllegalStateException` if they cannot be a block, or are one");
        Check.badState("they are one", BUSY, x -> x.join(0, 0));
        Check.badState("the last one is not mapped", BUSY, x -> x.join(0, 4));
        Check.badState("none is mapped", BUSY, x -> x.join(0, 28));
        Check.badState("they are a file's", BUSY, x -> x.join(0, 16));
        Check.badState("the space is dead", BUSY, x -> x.join(1, 0));
        Check.badState("some are mapped", BUSY, x -> x.join(2, 8));
    }

    private static void merges() {
        Check.promise(20, "`space`: a space");
        Pagewright x = new Pagewright();
        for (int i = 0; i < 6; i++) {
            x.space(0);
            x.map(i, 0, 1, 3, -1, 0, false, false);
            x.store(0, i, 0, 4);
        }
        x.merge(0, true);
        x.merge(5, true);
        Check.due("scan of the first and the last one", x.scan(64), 1);
        Check.due("their page", x.entry(5, 0, 2), x.entry(0, 0, 2));
        Check.promise(20, "`is`: whether it is");
        x.merge(0, false);
        x.merge(5, false);
        x.merge(2, true);
        x.merge(2, true);
        Check.due("scan of the space 2 alone", x.scan(192), 1);
        x.merge(2, false);
        x.merge(2, false);
        Check.due("scan when none is any more", x.scan(192), 0);
        Check.promise(20, "Tells whether a space is to be merged, false at first");
        Pagewright y = Check.withSpace(4, 4);
        Check.due("scan when none was told", y.scan(192), 0);
        Check.due("the second page", y.entry(0, 1, 2), 1);
        Check.promise(20, "a fork is as its parent is then");
        Pagewright z = Check.withSpace(4, 4);
        z.fork(0);
        z.merge(0, true);
        z.fork(0);
        z.merge(0, false);
        // The pages of all three are the same: the fork that is to be merged gives its own up to the other one of it.
        Check.due("scan of the second fork", z.scan(32), 1);
        Check.due("the first fork's is as it was", z.entry(1, 1, 2), 1);
        Check.due("the second fork's got the other one", z.entry(2, 1, 2), 0);
        Check.promise(20, "Throws `IndexOutOfBoundsException` if there is no such space");
        for (int space : NO_SPACES) {
            Check.noSpace("merge of the space " + space, BUSY, q -> q.merge(space, true));
            Check.noSpace("merge of the space " + space + " no more", BUSY, q -> q.merge(space, false));
        }
        Pagewright dead = Check.withSpace(4, 4);
        dead.end(0);
        dead.merge(0, true);
        Check.due("scan when a dead one was told", dead.scan(1), 0);
    }

    /** Six spaces to be merged, with two pages of the same value: at the first address of all, and at the last. */
    private static Pagewright sixToMerge() {
        Pagewright x = new Pagewright();
        for (int i = 0; i < 6; i++) {
            x.space(0);
            x.merge(i, true);
        }
        x.map(0, 0, 1, 3, -1, 0, false, false);
        x.map(5, 31, 1, 3, -1, 0, false, false);
        x.store(0, 0, 0, 7);
        x.store(0, 5, 31, 7);
        return x;
    }

    private static void scans() {
        Check.promise(21, "1 to 192: how many addresses of such spaces are gone through, whatever they are");
        Pagewright x = sixToMerge();
        Check.due("scan of all but one", x.scan(191), 0);
        Check.due("scan of the last one", x.scan(1), 1);
        Pagewright y = sixToMerge();
        Check.due("scan of 192", y.scan(192), 1);
        Pagewright one = Check.withSpace(7, 7);
        one.merge(0, true);
        Check.due("scan of 1", one.scan(1), 0);
        Check.due("scan of 1 more", one.scan(1), 1);
        // Those of other spaces do not count, those that are not mapped do.
        Pagewright other = sixToMerge();
        for (int i = 1; i < 5; i++) {
            other.merge(i, false);
        }
        other.end(4);
        Check.due("scan of two spaces' but one", other.scan(63), 0);
        Check.due("scan of the last one", other.scan(1), 1);
        Check.promise(21, "Scans.");
        Pagewright z = Check.withSpace(7, 8, 7);
        z.merge(0, true);
        z.scan(3);
        Check.due("the entry that got another page", z.entry(0, 2, 2), 0);
        Check.due("the one that did not", z.entry(0, 1, 2), 1);
        Check.promise(21, "Throws `IllegalArgumentException` if addresses is out of range");
        for (int addresses : new int[] {0, 193, -1, LOW, HIGH}) {
            Check.badArgument("scan of " + addresses, BUSY, q -> q.scan(addresses));
            Check.badArgument("scan of " + addresses + " without spaces", Pagewright::new, q -> q.scan(addresses));
        }
    }

    private static void scansCount() {
        Check.promise(21, "Returns how many entries got another page.");
        Check.due("scan without spaces", new Pagewright().scan(192), 0);
        Pagewright x = Check.withSpace(7, 7, 7, 7);
        x.merge(0, true);
        Check.due("three of four", x.scan(4), 3);
        Check.due("none in the next round", x.scan(32), 0);
        Pagewright full = Check.withSpace(new int[24]);
        full.merge(0, true);
        Check.due("all but the first one", full.scan(32), 23);
        Check.due("who has the page", full.frame(0, 4), 24);
        // More than one round: an entry can get another page in each.
        Pagewright y = Check.withSpace(5);
        y.store(0, 0, 31, 6);
        y.merge(0, true);
        Check.due("six rounds of nothing alike", y.scan(192), 0);
        y.store(0, 0, 31, 5);
        Check.due("six rounds of two alike", y.scan(192), 1);
    }
}
