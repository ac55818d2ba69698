/** The document's terms, sentence by sentence: "Frames, reclaiming". */
public final class TermsFramesTest {
    private static final int NONE = Pagewright.NONE;
    private static final int IDLE = Pagewright.IDLE;
    private static final int ACTIVE = Pagewright.ACTIVE;
    private static final int OUT = Pagewright.OUT;

    private TermsFramesTest() {
    }

    public static void main(String[] args) {
        groups();
        endsOfLists();
        refaults();
        refaultsFromWhen();
        messagesForPages();
        messagesForRights();
        messagesOnce();
        lingering();
        limits();
        limitsKill();
        limitsThatDoNotCount();
        framesForPages();
        nobodyLeft();
        needyKilled();
        evictionsBalance();
        evictionsOfGroups();
        evictionsSecondLooks();
        evictionsEnd();
        evictionsOut();
        blocksOfEvicted();
        storeSizes();
        storeToPlaces();
        storeOrder();
        storeWithoutPlaces();
        placesFull();
        victims();
        victimsOfGroups();
        Check.finish("TermsFramesTest");
    }

    // ---- objects to begin with

    private static Pagewright spaces(int... groups) {
        Pagewright x = new Pagewright();
        for (int i = 0; i < groups.length; i++) {
            x.space(groups[i]);
            x.map(i, 0, 32, 3, NONE, 0, false, false);
        }
        return x;
    }

    /** Puts pages of the values out, one behind the other, from the address on; there must be no other page. */
    private static void putOut(Pagewright x, int space, int from, int... values) {
        for (int i = 0; i < values.length; i++) {
            x.store(0, space, from + i, values[i]);
            Check.due("a page that is put out", x.reclaim(1), 1);
        }
        x.handle(0);
    }

    private static int[] many(int count, int value) {
        int[] values = new int[count];
        for (int i = 0; i < count; i++) {
            values[i] = value;
        }
        return values;
    }

    /** The space 0 has records at all places; there are no pages. The spaces are of these groups. */
    private static Pagewright placesTaken(int... groups) {
        Pagewright x = spaces(groups);
        putOut(x, 0, 0, many(10, 50000));
        return x;
    }

    /** Stores large values, for which there is no room, into the addresses from 16 on. */
    private static void large(Pagewright x, int space, int from, int count) {
        for (int i = 0; i < count; i++) {
            x.store(0, space, from + i, 60000);
        }
    }

    private static int[] inStore(Pagewright x, int space, int from, int count) {
        int[] places = new int[count];
        for (int i = 0; i < count; i++) {
            places[i] = x.entry(space, from + i, 4);
        }
        return places;
    }

    private static void due(String what, int[] got, int... want) {
        StringBuilder g = new StringBuilder();
        StringBuilder w = new StringBuilder();
        for (int n : got) {
            g.append(n).append(' ');
        }
        for (int n : want) {
            w.append(n).append(' ');
        }
        Check.due(what, g.toString(), w.toString());
    }

    // ---- pages and lists

    private static void groups() {
        Check.terms("A new page belongs to the group of the space whose access needs it");
        Pagewright x = spaces(1, 2);
        x.unmap(1, 0, 32);
        x.map(1, 0, 4, 3, 0, 0, false, false);
        x.load(0, 0, 0);
        x.load(0, 1, 0);
        x.store(0, 1, 1, 5);
        Check.due("a loose one", x.frame(0, 5), 1);
        Check.due("a cached one", x.frame(1, 5), 2);
        Check.due("a cached one for a copy", x.frame(2, 5), 2);
        Check.due("the copy", x.frame(3, 5), 2);
        x.fork(0);
        x.store(0, 2, 0, 6);
        Check.due("a fork's", x.frame(4, 5), 1);
        Check.terms("to the group 0 if that is a call for a file.");
        x.read(0, 2);
        x.write(0, 3, 1);
        Check.due("by reading", x.frame(5, 5), 0);
        Check.due("by writing", x.frame(6, 5), 0);
        x.load(0, 1, 3);
        x.read(0, 0);
        Check.due("one that another needs too", x.frame(6, 5), 0);
        Check.due("one that a call takes too", x.frame(1, 5), 2);
    }

    private static void endsOfLists() {
        Check.terms("A new loose page comes at the end of IDLE, a cached one that is read likewise");
        Pagewright x = spaces(0);
        x.load(0, 0, 0);
        x.read(0, 0);
        x.store(0, 0, 1, 5);
        x.write(0, 1, 5);
        Check.list("IDLE", x, IDLE, 0, 1, 2, 3);
        Check.list("ACTIVE", x, ACTIVE);
        x.unmap(0, 0, 1);
        x.handle(0);
        x.load(0, 0, 2);
        Check.list("IDLE, when the lowest frame was free", x, IDLE, 1, 2, 3, 0);
        x.fork(0);
        x.store(0, 0, 1, 6);
        Check.list("IDLE, with a copy", x, IDLE, 1, 2, 3, 0, 4);
    }

    private static void refaults() {
        Check.terms("or at the end of ACTIVE, if that is a refault: it was evicted before");
        Pagewright x = new Pagewright();
        for (int i = 0; i < 4; i++) {
            x.read(0, i);
        }
        x.reclaim(1);
        Check.list("ACTIVE ahead", x, ACTIVE, 2, 3);
        x.read(0, 0);
        Check.list("ACTIVE, and behind it what was evicted", x, ACTIVE, 2, 3, 0);
        x.read(0, 5);
        Check.list("IDLE, and behind it what never was", x, IDLE, 1, 4);
        Check.due("refaults", x.count(3), 1);
        Check.terms("since it was last no more pages, itself left out, were evicted than are in ACTIVE");
        for (int since = 0; since <= 2; since++) {
            // The first one is evicted by 1; with one more, 1 is in ACTIVE; with two more, also 1.
            Pagewright y = new Pagewright();
            for (int i = 0; i < 4; i++) {
                y.read(0, i);
            }
            y.reclaim(1 + since);
            y.read(0, 0);
            Check.due("refaults, as " + since + " were evicted since", y.count(3), since <= 1 ? 1 : 0);
            Check.due("the list of its page", y.frame(0, 2), since <= 1 ? ACTIVE : IDLE);
        }
        // Behind four of eight there are two in each list; a refault makes one more in ACTIVE.
        Pagewright eight = new Pagewright();
        for (int i = 0; i < 8; i++) {
            eight.read(2, i);
        }
        eight.reclaim(4);
        eight.read(2, 1);
        Check.due("refaults, when 2 were evicted since, and 2 are in ACTIVE", eight.count(3), 1);
        eight.read(2, 0);
        Check.due("refaults, when 3 were, and 3 are in ACTIVE, 2 in IDLE", eight.count(3), 2);
        Pagewright idle = new Pagewright();
        idle.read(0, 0);
        idle.read(0, 1);
        idle.reclaim(2);
        idle.read(1, 0);
        idle.read(1, 1);
        idle.read(0, 0);
        Check.due("refaults, when 1 was, and none is in ACTIVE, 2 in IDLE", idle.count(3), 0);
        for (int file = 0; file <= 2; file++) {
            for (int index = 0; index <= 7; index++) {
                Pagewright each = new Pagewright();
                each.read(file, index);
                each.reclaim(1);
                each.read((file + 1) % 3, index);
                each.read(file, (index + 1) % 8);
                Check.due("refaults of others than file " + file + ", index " + index, each.count(3), 0);
                each.read(file, index);
                Check.due("refaults of file " + file + ", index " + index, each.count(3), 1);
            }
        }
        Pagewright none = new Pagewright();
        none.read(0, 0);
        none.reclaim(1);
        none.read(0, 0);
        Check.due("refaults, when none is in ACTIVE and none was evicted since", none.count(3), 1);
        Check.list("ACTIVE", none, ACTIVE, 0);
        Pagewright others = spaces(1);
        others.read(0, 0);
        others.reclaim(1);
        others.store(0, 0, 0, 1);
        others.store(0, 0, 1, 1);
        others.reclaim(1);
        Check.list("ACTIVE, one of another group", others, ACTIVE, 1);
        others.read(0, 0);
        Check.due("refaults, when 1 was, and 1 of another group is in ACTIVE", others.count(3), 1);
        Pagewright loose = spaces(0);
        loose.read(0, 0);
        loose.reclaim(1);
        putOut(loose, 0, 0, 5);
        loose.read(0, 0);
        Check.due("refaults, when a loose one was evicted since", loose.count(3), 0);
    }

    private static void refaultsFromWhen() {
        Check.terms("than are in ACTIVE, as it gets its frame.");
        // The other one is evicted for its frame, and counts; what was in ACTIVE is in IDLE then.
        Pagewright x = new Pagewright();
        x.read(0, 0);
        x.read(0, 1);
        x.reclaim(1);
        Check.list("ACTIVE", x, ACTIVE, 1);
        x.limit(0, 1);
        x.read(0, 0);
        Check.due("pages evicted", x.count(2), 2);
        Check.due("refaults", x.count(3), 0);
        Check.terms("it was evicted before, and since it was last");
        Pagewright y = new Pagewright();
        y.read(0, 0);
        y.reclaim(1);
        y.read(0, 1);
        y.reclaim(1);
        y.read(0, 2);
        y.reclaim(1);
        y.read(0, 0);
        Check.due("refaults, when two were evicted since", y.count(3), 0);
        y.reclaim(1);
        y.read(0, 0);
        Check.due("refaults, when none was since it was last", y.count(3), 1);
        y.reclaim(1);
        y.read(1, 0);
        y.read(0, 3);
        Check.due("refaults of the same index of another file, and of another index", y.count(3), 1);
        // A page that goes without being evicted does not count.
        Pagewright z = spaces(0);
        z.read(0, 0);
        z.reclaim(1);
        z.store(0, 0, 0, 5);
        z.unmap(0, 0, 1);
        z.read(0, 0);
        Check.due("refaults, when another one is gone since", z.count(3), 1);
    }

    // ---- messages

    private static void messagesForPages() {
        Check.terms("When an entry that is PRESENT gets another page, or none, is gone");
        Pagewright x = Check.withSpace(5);
        x.fork(0);
        x.handle(0);
        x.load(0, 0, 0);
        x.load(1, 0, 0);
        x.store(1, 0, 0, 6);
        Check.due("messages, as it gets a copy", x.count(10), 1);
        Check.due("of the one that did not make that", x.handle(0), 1);
        x.reclaim(24);
        Check.due("messages, as it gets none", x.count(10), 1);
        x.handle(1);
        x.load(0, 0, 0);
        x.load(1, 0, 0);
        x.unmap(0, 0, 1);
        Check.due("messages, as it is gone", x.count(10), 2);
        Pagewright moved = Check.withSpace(5, 6);
        moved.unmap(0, 9, 2);
        moved.move(0, 0, 2, 9);
        Check.due("messages, as two are moved", moved.count(10), 2);
        moved.load(0, 0, 9);
        Check.due("hits of what was moved", moved.count(0), 0);
        Pagewright ended = Check.withSpace(5, 6, 7);
        ended.end(0);
        Check.due("messages, as the space is ended", ended.count(10), 3);
        Pagewright merged = Check.withSpace(5, 5);
        merged.protect(0, 0, 2, 3);
        merged.handle(0);
        merged.load(0, 0, 0);
        merged.load(0, 0, 1);
        merged.merge(0, true);
        merged.scan(2);
        Check.due("messages, as one of two gets the other's page", merged.count(10), 1);
        Check.terms("When an entry that is PRESENT");
        Pagewright out = Check.withSpace(5, 6);
        out.reclaim(2);
        out.handle(0);
        out.unmap(0, 0, 32);
        Check.due("messages for what was OUT or ABSENT", out.count(10), 0);
        Pagewright none = Check.withSpace();
        none.load(0, 0, 0);
        none.load(0, 0, 0);
        Check.due("messages for what was ABSENT, and comes", none.count(10), 0);
    }

    private static void messagesForRights() {
        Check.terms("or is not writable any more, each processor that has its translation");
        Pagewright x = Check.withSpace(5, 6);
        x.load(0, 0, 2);
        x.load(1, 0, 0);
        x.protect(0, 0, 3, 3);
        Check.due("messages, for two that were writable, one of them in two caches", x.count(10), 3);
        Check.due("of the second processor", x.handle(1), 1);
        Check.due("of the first processor, none for the one that was not", x.handle(0), 2);
        x.protect(0, 0, 3, 3);
        Check.due("messages, when none is writable", x.count(10), 0);
        Pagewright fork = Check.withSpace(5);
        fork.load(0, 0, 1);
        fork.fork(0);
        Check.due("messages of a fork", fork.count(10), 1);
        Pagewright sync = spaces(0);
        sync.unmap(0, 0, 2);
        sync.map(0, 0, 2, 3, 0, 0, true, false);
        sync.store(0, 0, 0, 5);
        sync.load(0, 0, 1);
        sync.sync(0);
        Check.due("messages of sync", sync.count(10), 1);
        Pagewright merged = Check.withSpace(5, 5);
        merged.merge(0, true);
        merged.scan(2);
        Check.due("messages of a scan: one gets another page, the other is not writable", merged.count(10), 2);
        Pagewright none = Check.withSpace(1, 2, 3, 4, 5);
        none.unmap(0, 0, 1);
        Check.due("messages, when no cache has its translation any more", none.count(10), 0);
    }

    private static void messagesOnce() {
        Check.terms("and no message for that yet, gets a message.");
        Pagewright x = Check.withSpace(5);
        x.load(1, 0, 0);
        x.protect(0, 0, 1, 3);
        x.reclaim(1);
        Check.due("messages for two reasons", x.count(10), 2);
        x.unmap(0, 0, 1);
        Check.due("messages for three", x.count(10), 2);
        Check.due("of one processor", x.handle(1), 1);
        Check.due("of the other", x.handle(0), 1);
        Check.due("of it again", x.handle(0), 0);
        // The one that handled it can get another one; the other one has its first one still.
        Pagewright y = Check.withSpace(5);
        y.load(1, 0, 0);
        y.protect(0, 0, 1, 3);
        y.store(1, 0, 0, 6);
        Check.due("messages, as one comes anew", y.count(10), 1);
        y.protect(0, 0, 1, 3);
        Check.due("messages then", y.count(10), 2);
    }

    private static void lingering() {
        Check.terms("A frame whose page is gone lingers, while a translation of a processor has it");
        Pagewright x = Check.withSpace(5, 6, 7, 8, 9);
        x.load(1, 0, 1);
        x.unmap(0, 0, 5);
        Check.due("one that no cache has", x.frame(0, 0), 0);
        Check.due("one that both have", x.frame(1, 0), 3);
        Check.due("one that one has", x.frame(4, 0), 3);
        Check.terms("and is free behind that.");
        x.handle(0);
        Check.due("the one that one had", x.frame(4, 0), 0);
        Check.due("the one that both had", x.frame(1, 0), 3);
        x.handle(1);
        Check.due("the one that both had", x.frame(1, 0), 0);
        Pagewright y = Check.withSpace();
        y.store(0, 0, 0, 1);
        y.store(1, 0, 0, 2);
        y.reclaim(1);
        Check.due("what was evicted lingers", y.frame(0, 0), 3);
        y.load(1, 0, 5);
        Check.due("it lingers for the other one", y.frame(0, 0), 3);
        Check.due("so that another one was taken", y.entry(0, 5, 2), 1);
        y.load(0, 0, 6);
        Check.due("and is taken, as it was free then", y.entry(0, 6, 2), 0);
        // A cached page that no entry has stays, so that its frame neither lingers nor is free.
        Pagewright z = spaces(0);
        z.unmap(0, 0, 1);
        z.map(0, 0, 1, 3, 0, 0, true, false);
        z.load(0, 0, 0);
        z.unmap(0, 0, 1);
        Check.due("the page stays", z.frame(0, 0), 2);
        z.reclaim(1);
        Check.due("its frame lingers as it is evicted", z.frame(0, 0), 3);
    }

    // ---- frames for new pages

    private static void limits() {
        Check.terms("if its group has a limit, and has as many pages or more, a page of the group is evicted");
        Pagewright x = spaces(1, 2);
        x.limit(1, 2);
        x.load(0, 0, 0);
        x.load(0, 1, 0);
        x.load(0, 0, 1);
        Check.due("evicted up to the limit", x.count(2), 0);
        x.load(0, 0, 2);
        Check.due("evicted at the limit", x.count(2), 1);
        Check.due("the other group's stays", x.entry(1, 0, 1), Pagewright.PRESENT);
        Check.due("pages of the group", x.limit(1, 2), 2);
        x.load(0, 1, 1);
        Check.due("evicted for a group without a limit", x.count(2), 1);
        x.load(0, 0, 2);
        Check.due("evicted when no new page is needed", x.count(2), 1);
        Check.terms("until there are fewer.");
        Pagewright y = spaces(0);
        for (int a = 0; a < 6; a++) {
            y.load(0, 0, a);
        }
        y.limit(0, 2);
        y.load(0, 0, 6);
        Check.due("evicted, so that there are fewer", y.count(2), 5);
        Check.due("pages then", y.limit(0, 2), 2);
        y.read(0, 0);
        Check.due("evicted for a call, which is the group 0's", y.count(2), 6);
        // A limit is the group's of the page that is new, be there a free frame or not.
        Check.due("a free frame", y.frame(20, 0), 0);
    }

    private static void limitsKill() {
        Check.terms("or else somebody of the group is killed");
        Pagewright x = placesTaken(0, 1, 1);
        large(x, 1, 0, 2);
        large(x, 2, 0, 1);
        x.limit(1, 3);
        x.adjust(0, 50);
        Check.due("to load by the lesser one of the group", x.load(0, 2, 5), 0);
        Check.due("spaces killed", x.count(7), 1);
        Check.due("the greater one of the group", x.about(1, 0), 0);
        Check.due("one of another group, greater yet", x.about(0, 0), 1);
        Check.due("pages of the group", x.limit(1, 3), 2);
        Check.due("pages evicted", x.count(2), 10);
        // One after the other, until there are fewer: neither of the first two is enough.
        Pagewright y = placesTaken(0, 1, 1, 1);
        for (int i = 1; i <= 3; i++) {
            large(y, i, 0, 1);
        }
        y.adjust(3, -5);
        y.limit(1, 1);
        Check.due("to load by the least one of the group", y.load(0, 3, 5), Pagewright.KILLED);
        Check.due("spaces killed", y.count(7), 3);
        Check.due("the other group's", y.about(0, 0), 1);
    }

    private static void limitsThatDoNotCount() {
        Check.terms("If nobody of the group is left to be killed, its limit does not count for this page");
        // A page of the group 0 that a space of the group 1 got by a scan stays when the group 0 has no space any more.
        Pagewright x = new Pagewright();
        x.space(0);
        x.space(1);
        x.map(0, 0, 32, 3, NONE, 0, false, false);
        x.map(1, 0, 32, 3, NONE, 0, false, false);
        putOut(x, 1, 0, many(10, 50000));
        large(x, 0, 16, 1);
        large(x, 1, 16, 1);
        x.merge(0, true);
        x.merge(1, true);
        Check.due("the entry that got the other group's page", x.scan(64), 1);
        x.end(0);
        Check.due("pages of the group 0", x.limit(0, 1), 1);
        Check.due("read, above the limit", x.read(0, 0), 0);
        Check.due("pages evicted", x.count(2), 10);
        Check.due("spaces killed", x.count(7), 0);
        Check.due("the page of the group 0 that the other space has", x.frame(x.entry(1, 16, 2), 5), 0);
        Check.due("read of another one, for which the first one goes", x.read(0, 1), 0);
        Check.due("pages of the group 0", x.limit(0, 1), 2);
        Check.due("pages evicted", x.count(2), 11);
    }

    private static void framesForPages() {
        Check.terms("the lowest frame that is free is taken");
        Pagewright x = Check.withSpace(1, 2, 3, 4, 5, 6, 7, 8);
        x.unmap(0, 1, 1);
        x.unmap(0, 3, 1);
        x.load(0, 0, 10);
        Check.due("the lowest one of several", x.entry(0, 10, 2), 1);
        x.load(0, 0, 11);
        Check.due("the next one", x.entry(0, 11, 2), 3);
        x.load(0, 0, 12);
        Check.due("the one behind all", x.entry(0, 12, 2), 8);
        Check.terms("if there is none, but some linger, all processors handle their messages");
        Pagewright y = Check.withSpace(many(24, 1));
        y.load(1, 0, 3);
        y.load(1, 0, 4);
        y.unmap(0, 3, 2);
        y.unmap(0, 22, 1);
        Check.due("messages ahead", y.count(10), 3);
        y.load(0, 0, 30);
        Check.due("the one that was free when its own were handled", y.entry(0, 30, 2), 22);
        Check.due("messages of the other one stay", y.count(10), 2);
        y.load(0, 0, 31);
        Check.due("the lowest one that lingered", y.entry(0, 31, 2), 3);
        Check.due("messages", y.count(10), 0);
        Check.due("the other one that lingered is free", y.frame(4, 0), 0);
        Check.due("pages evicted", y.count(2), 0);
        Pagewright both = Check.withSpace(many(24, 1));
        both.load(1, 0, 3);
        both.unmap(0, 3, 1);
        both.unmap(0, 22, 1);
        Check.due("messages, one of each", both.count(10), 2);
        both.read(0, 0);
        Check.due("messages behind a call for a file", both.count(10), 0);
        Check.due("its frame", both.frame(3, 0), 2);
        Check.due("the other frame", both.frame(22, 0), 0);
        Check.terms("otherwise a page of all is evicted");
        Pagewright z = Check.withSpace(many(24, 1));
        z.store(0, 0, 24, 1);
        Check.due("pages evicted", z.count(2), 1);
        Check.due("the first one", z.entry(0, 0, 1), OUT);
        Check.due("its frame", z.entry(0, 24, 2), 0);
        // The one that is evicted lingers, and is free when the messages are handled: none is evicted twice for it.
        Pagewright w = Check.withSpace(many(24, 1));
        w.load(1, 0, 0);
        w.load(0, 0, 0);
        w.load(0, 0, 24);
        Check.due("pages evicted for one that lingers", w.count(2), 1);
        Check.due("its frame", w.entry(0, 24, 2), 0);
        Check.due("messages", w.count(10), 0);
    }

    private static void nobodyLeft() {
        Check.terms("or else somebody of all is killed.");
        Pagewright x = placesTaken(0, 1, 2);
        large(x, 1, 0, 12);
        large(x, 2, 0, 12);
        x.adjust(0, 5);
        Check.due("to load by the third one", x.load(0, 2, 20), 0);
        Check.due("the first one, with 10 records and 5, is the greatest", x.about(0, 0), 0);
        Check.due("spaces killed", x.count(7), 1);
        Check.due("a page is evicted then, as places are free", x.count(2), 11);
        Check.terms("if nobody of all is, FULL is told.");
        // It cannot be: without spaces there are cached pages alone, and one of these can always be evicted.
        Pagewright y = placesTaken(0, 1);
        large(y, 1, 0, 24);
        y.adjust(0, -40);
        Check.due("read, for which the last but one is killed", y.read(0, 0), 0);
        Check.due("spaces killed", y.count(7), 1);
        Check.due("who is left", y.about(0, 0), 1);
        Pagewright z = new Pagewright();
        for (int i = 0; i < 24; i++) {
            z.write(i / 8, i % 8, 1);
        }
        z.space(0);
        z.map(0, 0, 1, 3, NONE, 0, false, false);
        z.load(0, 0, 0);
        z.end(0);
        z.limit(0, 1);
        Check.due("read, when nobody lives", z.read(0, 0), 1);
        Check.due("pages", z.limit(0, 1), 1);
    }

    private static void needyKilled() {
        Check.terms("If the space that needs it is killed, the access ends: KILLED.");
        Pagewright x = placesTaken(0, 1);
        large(x, 1, 0, 24);
        x.unmap(0, 30, 1);
        Check.due("to store", x.store(0, 1, 24, 1), Pagewright.KILLED);
        Check.due("whether it lives", x.about(1, 0), 0);
        Check.due("its entry", x.entry(1, 24, 1), NONE);
        Check.due("misses", x.count(1), 35);
        Check.due("pages", x.limit(1, NONE), 0);
        Check.list("IDLE", x, IDLE);
        Check.list("ACTIVE", x, ACTIVE);
        Pagewright y = placesTaken(0, 1);
        large(y, 1, 0, 1);
        y.limit(1, 1);
        Check.due("to load at the limit", y.load(1, 1, 24), Pagewright.KILLED);
        // For a private one the cached page was read by then, and stays.
        Pagewright z = placesTaken(0, 1);
        z.unmap(1, 30, 1);
        z.map(1, 30, 1, 3, 2, 5, false, false);
        large(z, 1, 0, 22);
        z.write(2, 5, 9);
        z.load(0, 1, 30);
        z.limit(1, 22);
        Check.due("to store into a private one", z.store(0, 1, 30, 1), Pagewright.KILLED);
        Check.due("the file's value", z.read(2, 5), 9);
        // Or the frame is for the cached page, which is not read then.
        for (int access = 0; access <= 2; access++) {
            Pagewright file = placesTaken(0, 1);
            file.unmap(1, 30, 1);
            file.map(1, 30, 1, 3, 2, 5, access == 1, false);
            large(file, 1, 0, 24);
            int told = access == 0 ? file.load(0, 1, 30) : file.store(0, 1, 30, 1);
            Check.due("to load, or to store into a shared or a private one", told, Pagewright.KILLED);
            Check.due("values read", file.count(4), 0);
            Check.due("pages", file.limit(1, NONE), 0);
            Check.due("spaces killed", file.count(7), 1);
        }
        // Who is not the one that needs it is killed, and the access goes on.
        Pagewright w = placesTaken(0, 1);
        large(w, 1, 0, 24);
        w.adjust(1, -30);
        Check.due("to store", w.store(0, 1, 24, 1), 0);
        Check.due("whether it lives", w.about(1, 0), 1);
        Check.due("whether the other one lives", w.about(0, 0), 0);
    }

    // ---- evicting

    private static void evictionsBalance() {
        Check.terms("while fewer of them are in IDLE than in ACTIVE, the first one of them in ACTIVE goes to the end");
        Pagewright x = Check.withSpace(1, 2, 3, 4);
        x.reclaim(1);
        Check.list("IDLE, one", x, IDLE, 1);
        Check.list("ACTIVE, two", x, ACTIVE, 2, 3);
        x.reclaim(1);
        Check.due("the one that was in IDLE", x.entry(0, 1, 1), OUT);
        Check.list("IDLE, to which one came ahead of that", x, IDLE, 2);
        Check.list("ACTIVE", x, ACTIVE, 3);
        x.reclaim(1);
        Check.due("the one in IDLE", x.entry(0, 2, 1), OUT);
        Check.list("ACTIVE, as there were not fewer in IDLE", x, ACTIVE, 3);
        x.reclaim(1);
        Check.due("the last one, by way of IDLE", x.entry(0, 3, 1), OUT);
        Check.terms("of them in ACTIVE goes to the end of IDLE, not seen.");
        Pagewright y = Check.withSpace(1, 2, 3, 4);
        y.reclaim(1);
        y.load(0, 0, 2);
        Check.due("seen in ACTIVE", y.frame(2, 3), 1);
        y.reclaim(1);
        Check.list("IDLE", y, IDLE, 2);
        Check.due("not seen in IDLE", y.frame(2, 3), 0);
        // More than one goes, until there are not fewer.
        Pagewright z = Check.withSpace(1, 2, 3, 4, 5, 6, 7, 8);
        z.reclaim(1);
        Check.list("IDLE, three", z, IDLE, 1, 2, 3);
        Check.list("ACTIVE, four", z, ACTIVE, 4, 5, 6, 7);
        z.unmap(0, 1, 3);
        z.handle(0);
        z.reclaim(1);
        Check.due("the first one of ACTIVE", z.entry(0, 4, 1), OUT);
        Check.list("IDLE, to which two came, and one went", z, IDLE, 5);
        Check.list("ACTIVE", z, ACTIVE, 6, 7);
        Pagewright w = Check.withSpace(1, 2, 3, 4, 5, 6);
        w.reclaim(1);
        Check.list("ACTIVE, three", w, ACTIVE, 3, 4, 5);
        w.unmap(0, 1, 2);
        w.reclaim(1);
        Check.list("IDLE, to which two came, as one was fewer than two", w, IDLE, 4);
        Check.list("ACTIVE", w, ACTIVE, 5);
    }

    private static void evictionsOfGroups() {
        Check.terms("To evict a page, of a group or of all");
        Pagewright x = spaces(0, 1);
        x.store(0, 0, 0, 1);
        x.store(0, 1, 0, 2);
        x.store(0, 0, 1, 3);
        x.store(0, 1, 1, 4);
        x.limit(1, 2);
        // Of the frames 1 and 3, both seen: 1 goes to ACTIVE, 3 goes there, 1 comes back, and is evicted.
        x.store(0, 1, 2, 5);
        Check.due("the evicted one", x.entry(1, 0, 1), OUT);
        Check.list("IDLE, the other group's as they were", x, IDLE, 0, 2, 4);
        Check.list("ACTIVE", x, ACTIVE, 3);
        Check.due("seen still", x.frame(0, 3) + x.frame(2, 3), 2);
        Check.terms("the first one of them in IDLE");
        // Of the group 1: 4 in IDLE, 3 in ACTIVE; 4 is seen and goes, 3 comes back, and is evicted.
        x.store(0, 1, 3, 6);
        Check.due("the evicted one", x.entry(1, 1, 1), OUT);
        Check.list("ACTIVE then", x, ACTIVE, 4);
    }

    private static void evictionsSecondLooks() {
        Check.terms("if it is seen, it goes to the end of ACTIVE, not seen.");
        Pagewright x = Check.withSpace(1, 2, 3);
        x.reclaim(1);
        Check.due("the first one, as all were seen", x.entry(0, 0, 1), OUT);
        Check.list("ACTIVE", x, ACTIVE, 2);
        Check.due("not seen", x.frame(2, 3), 0);
        Pagewright y = Check.withSpace(1, 2, 3, 4);
        y.reclaim(2);
        Check.list("IDLE", y, IDLE, 2);
        y.load(0, 0, 2);
        y.reclaim(1);
        Check.due("the one that was seen again", y.entry(0, 2, 1), Pagewright.PRESENT);
        Check.due("the one that was not", y.entry(0, 3, 1), OUT);
        Check.list("ACTIVE", y, ACTIVE, 2);
        Check.due("not seen", y.frame(2, 3), 0);
        // A page that came for a private one's copy is not seen, and goes ahead of those that are.
        Pagewright z = Check.withSpace(1, 2);
        z.unmap(0, 9, 1);
        z.map(0, 9, 1, 3, 0, 0, false, false);
        z.store(0, 0, 9, 5);
        z.reclaim(1);
        Check.due("the one that was not seen", z.frame(2, 0), 0);
    }

    private static void evictionsEnd() {
        Check.terms("at most so many times as there are such pages as it begins, twice");
        Check.due("one page, twice: it had a second look", Check.withSpace(1).reclaim(1), 1);
        // When none can be evicted, each goes to the end of ACTIVE in its turn, 2, 4 and 6 times in all.
        int[][][] want = {{{}, {0}}, {{}, {0, 1}}, {{0}, {1, 2}}};
        for (int pages = 1; pages <= 3; pages++) {
            Pagewright x = placesTaken(0);
            large(x, 0, 16, pages);
            Check.due("none of " + pages, x.reclaim(1), 0);
            Check.list("IDLE of " + pages, x, IDLE, want[pages - 1][0]);
            Check.list("ACTIVE of " + pages, x, ACTIVE, want[pages - 1][1]);
            for (int f = 0; f < pages; f++) {
                Check.due("seen", x.frame(f, 3), 0);
            }
        }
        // Twice for those of the group, when it is the group's.
        Pagewright y = placesTaken(1, 1, 0);
        large(y, 2, 0, 4);
        large(y, 1, 0, 3);
        y.adjust(0, 50);
        y.limit(1, 3);
        Check.due("to load", y.load(0, 1, 9), 0);
        Check.due("who was killed, so that there is room", y.about(0, 0), 0);
        // Of 4, 5 and 6, which were 4 and 5, 6 behind the first try, 4 was evicted as 5 had come to IDLE; it lingers.
        Check.list("IDLE", y, IDLE, 0, 1, 2, 3, 5, 7);
        Check.list("ACTIVE", y, ACTIVE, 6);
    }

    private static void evictionsOut() {
        Check.terms("Otherwise a cached one, if it is dirty, is written to the disk, and its entries become ABSENT");
        Pagewright x = spaces(0, 1);
        for (int space = 0; space <= 1; space++) {
            x.unmap(space, 0, 2);
            x.map(space, 0, 2, 3, 0, 0, true, false);
            x.load(0, space, 0);
            x.load(0, space, 1);
        }
        x.store(0, 1, 1, 5);
        Check.due("evicted", x.reclaim(2), 2);
        for (int space = 0; space <= 1; space++) {
            Check.due("the clean one's entry", x.entry(space, 0, 1), Pagewright.ABSENT);
            Check.due("the dirty one's entry", x.entry(space, 1, 1), Pagewright.ABSENT);
        }
        Check.due("values written", x.count(5), 1);
        Check.due("the disk", x.disk(0, 1), 5);
        Check.due("the store and the places", x.count(8) + x.count(9), 0);
        Check.terms("a loose one becomes a record, if there is room for that, and its entries have that, OUT");
        Pagewright y = Check.withSpace(500);
        y.fork(0);
        y.fork(0);
        y.reclaim(1);
        for (int space = 0; space <= 2; space++) {
            Check.due("the entry of each", y.entry(space, 0, 1), OUT);
            Check.due("the record of each", y.entry(space, 0, 4), 10);
        }
        Check.due("the store, one record", y.count(8), 2);
        Check.due("values written for it", y.count(5), 0);
        Check.terms("otherwise it goes to the end of ACTIVE.");
        Pagewright z = placesTaken(0);
        large(z, 0, 16, 2);
        z.store(0, 0, 18, 7);
        Check.due("the one behind those without room", z.reclaim(2), 1);
        Check.due("its entry", z.entry(0, 18, 1), OUT);
        Check.due("the others'", z.about(0, 2), 2);
    }

    private static void blocksOfEvicted() {
        Check.terms("If it could be, its block is one no more, and it is evicted.");
        Pagewright x = Check.withSpace(1, 2, 3, 4, 5, 6, 7, 8);
        x.join(0, 0);
        x.join(0, 4);
        x.reclaim(1);
        Check.due("the evicted one", x.entry(0, 0, 1), OUT);
        Check.due("its block", x.entry(0, 1, 5), 0);
        Check.due("the other block", x.entry(0, 4, 5), 1);
        Check.due("pages evicted", x.count(2), 1);
        Pagewright y = placesTaken(0);
        large(y, 0, 16, 4);
        y.join(0, 16);
        Check.due("when none could be", y.reclaim(1), 0);
        Check.due("the block", y.about(0, 4), 1);
        Check.due("pages evicted", y.count(2), 10);
    }

    // ---- records

    private static void storeSizes() {
        Check.terms("A record of a value below 100 takes 1 of the store, one below 10000 takes 2; the store has 8.");
        int[][] sizes = {{0, 1, 0}, {99, 1, 0}, {100, 2, 0}, {9999, 2, 0}, {10000, 0, 1}, {99999, 0, 1}};
        for (int[] size : sizes) {
            Pagewright x = spaces(0);
            putOut(x, 0, 0, size[0]);
            Check.due("the store with " + size[0], x.count(8), size[1]);
            Check.due("places with " + size[0], x.count(9), size[2]);
            Check.due("the value behind it", x.load(0, 0, 0), size[0]);
        }
        Pagewright y = spaces(0);
        putOut(y, 0, 0, many(8, 99));
        Check.due("the store, with eight", y.count(8), 8);
        Check.due("places", y.count(9), 0);
        putOut(y, 0, 8, 99);
        Check.due("the store, with a ninth", y.count(8), 8);
        Check.due("places", y.count(9), 1);
        Pagewright z = spaces(0);
        putOut(z, 0, 0, many(4, 100));
        Check.due("the store, with four", z.count(8), 8);
        Check.due("places", z.count(9), 0);
        putOut(z, 0, 4, 99);
        Check.due("the store, with a small one in place of one", z.count(8), 7);
        Check.due("places", z.count(9), 1);
        putOut(z, 0, 5, 99);
        Check.due("the store, full again", z.count(8), 8);
        Check.due("places", z.count(9), 1);
    }

    private static void storeToPlaces() {
        Check.terms("While it does not fit, and there is something in the store, and a place is free");
        Pagewright x = spaces(0);
        putOut(x, 0, 0, many(8, 1));
        putOut(x, 0, 8, 100);
        due("two went for one that takes 2", inStore(x, 0, 0, 9), 0, 1, 10, 10, 10, 10, 10, 10, 10);
        Check.due("the store", x.count(8), 8);
        Pagewright y = spaces(0);
        putOut(y, 0, 0, many(7, 1));
        putOut(y, 0, 7, 100);
        due("one went, as that was enough", inStore(y, 0, 0, 8), 0, 10, 10, 10, 10, 10, 10, 10);
        Check.due("the store", y.count(8), 8);
        Check.terms("what is in the store longest goes to the lowest free place, of 10, 0 to 9.");
        Pagewright z = spaces(0);
        putOut(z, 0, 0, 20000, 20000, 20000);
        z.unmap(0, 1, 1);
        putOut(z, 0, 4, 100, 100, 100, 100, 100, 100);
        due("where they are", inStore(z, 0, 4, 6), 1, 3, 10, 10, 10, 10);
        // The last one is the place 9.
        Pagewright w = spaces(0);
        putOut(w, 0, 0, many(9, 20000));
        putOut(w, 0, 10, 100, 100, 100, 100, 100);
        due("where they are", inStore(w, 0, 10, 5), 9, 10, 10, 10, 10);
        Check.due("places", w.count(9), 10);
        Check.terms("to the lowest free place; if there is none, there is no room.");
        Pagewright v = spaces(0);
        putOut(v, 0, 0, many(10, 20000));
        due("where they are", inStore(v, 0, 0, 10), 0, 1, 2, 3, 4, 5, 6, 7, 8, 9);
        v.unmap(0, 7, 1);
        v.unmap(0, 4, 1);
        putOut(v, 0, 10, 20000, 20000);
        due("the lowest free ones again", inStore(v, 0, 10, 2), 4, 7);
    }

    private static void storeOrder() {
        Check.terms("what is in the store longest");
        Pagewright x = spaces(0);
        putOut(x, 0, 0, 100, 100, 100, 100);
        // The first one leaves, and comes again behind the others; so the second one is in it longest.
        x.load(0, 0, 0);
        Check.due("the first one again", x.reclaim(1), 1);
        putOut(x, 0, 4, 100);
        due("where they are", inStore(x, 0, 0, 5), 10, 0, 10, 10, 10);
        putOut(x, 0, 5, 100, 100);
        due("the next ones", inStore(x, 0, 0, 7), 10, 0, 1, 2, 10, 10, 10);
        putOut(x, 0, 7, 100);
        Check.due("the first one at last", x.entry(0, 0, 4), 3);
        // Two that were in it longest are gone, and one came since: what is gone is not in it.
        Pagewright z = spaces(0);
        putOut(z, 0, 0, many(8, 1));
        z.unmap(0, 0, 2);
        putOut(z, 0, 8, 100);
        putOut(z, 0, 9, 1);
        due("the third one", inStore(z, 0, 2, 8), 0, 10, 10, 10, 10, 10, 10, 10);
        Check.due("the store", z.count(8), 8);
        Check.terms("and one of 10000 or more at once");
        Pagewright y = spaces(0);
        putOut(y, 0, 0, 100, 100, 100, 100);
        putOut(y, 0, 4, 10000);
        due("the store gives nothing up for it", inStore(y, 0, 0, 5), 10, 10, 10, 10, 0);
        Check.due("the store", y.count(8), 8);
    }

    private static void storeWithoutPlaces() {
        Check.terms("Then it comes into the store, if it fits");
        Pagewright x = placesTaken(0);
        putOut(x, 0, 16, 100, 100, 100, 1);
        Check.due("the store, though no place is free", x.count(8), 7);
        putOut(x, 0, 20, 1);
        Check.due("the store, full", x.count(8), 8);
        x.store(0, 0, 21, 1);
        Check.due("one more", x.reclaim(1), 0);
        Check.due("the store", x.count(8), 8);
        Pagewright y = placesTaken(0);
        putOut(y, 0, 16, 100, 100, 100, 1);
        y.store(0, 0, 20, 100);
        Check.due("one that takes 2, of which there is 1", y.reclaim(1), 0);
        Check.due("the store", y.count(8), 7);
        Check.terms("otherwise, and one of 10000 or more at once, to the lowest free place");
        // The last place goes to what was in the store, and that is not enough: then there is no room.
        Pagewright z = spaces(0);
        putOut(z, 0, 0, many(9, 20000));
        putOut(z, 0, 10, many(8, 1));
        z.store(0, 0, 18, 100);
        Check.due("one that takes 2", z.reclaim(1), 0);
        due("where they are", inStore(z, 0, 10, 4), 9, 10, 10, 10);
        Check.due("the store", z.count(8), 7);
        Check.due("places", z.count(9), 10);
        Check.due("its entry", z.entry(0, 18, 1), Pagewright.PRESENT);
        z.unmap(0, 3, 1);
        Check.due("when a place is free again", z.reclaim(1), 1);
        due("where they are", inStore(z, 0, 10, 9), 9, 3, 10, 10, 10, 10, 10, 10, 10);
        Check.due("the store", z.count(8), 8);
    }

    private static void placesFull() {
        Check.terms("if there is none, there is no room.");
        Pagewright x = placesTaken(0);
        large(x, 0, 16, 1);
        Check.due("an eleventh one", x.reclaim(1), 0);
        Check.due("its entry", x.entry(0, 16, 1), Pagewright.PRESENT);
        Check.due("places", x.count(9), 10);
        x.unmap(0, 5, 1);
        Check.due("when one is free", x.reclaim(1), 1);
        Check.due("its place", x.entry(0, 16, 4), 5);
    }

    // ---- who is killed

    private static void victims() {
        Check.terms("with the greatest score, of several the lowest");
        // The scores are 10 by records, 12 and 12 by pages, and what they are adjusted by; the last one is killed.
        int[][] adjusted = {{0, 0, 0, 1}, {0, 0, 1, 2}, {0, 1, 1, 1}, {1, 0, 0, 1}, {2, 0, 0, 0}, {3, 2, 2, 1},
            {4, 0, 2, 0}, {-1, -2, -1, 2}, {-2, -3, -5, 1}};
        for (int[] by : adjusted) {
            Pagewright x = placesTaken(0, 1, 2);
            large(x, 1, 0, 12);
            large(x, 2, 0, 12);
            for (int space = 0; space <= 2; space++) {
                x.adjust(space, by[space]);
            }
            x.read(0, 0);
            for (int space = 0; space <= 2; space++) {
                Check.due("whether " + space + " lives, adjusted by " + by[0] + ", " + by[1] + ", " + by[2],
                        x.about(space, 0), space == by[3] ? 0 : 1);
            }
        }
        Check.terms("how many of its entries are PRESENT or OUT, and what it was adjusted by, together.");
        Pagewright y = Check.withSpace(1, 2, 3);
        y.reclaim(1);
        y.adjust(0, -50);
        Check.due("the score", y.about(0, 5), -47);
        // One whose score is below 0 is killed when there is no other one.
        Pagewright z = placesTaken(0, 1);
        large(z, 1, 0, 24);
        z.adjust(1, -50);
        z.end(0);
        for (int a = 24; a < 32; a++) {
            large(z, 1, a, 1);
        }
        Check.due("who lives, as places are free", z.about(1, 0), 1);
        z.space(1);
        z.map(2, 0, 32, 3, NONE, 0, false, false);
        z.adjust(2, -50);
        large(z, 2, 0, 2);
        Check.due("spaces killed for what has two places", z.count(7), 0);
        Check.due("to store a third one", z.store(0, 2, 2, 60000), 0);
        Check.due("who lives, of -18 and -48", z.about(1, 0) * 10 + z.about(2, 0), 1);
        Check.terms("All its addresses are unmapped, and it is dead.");
        Check.due("its regions", z.about(1, 1), 0);
        Check.due("its entries", z.about(1, 2) + z.about(1, 3), 0);
        Check.due("rights of its last one", z.entry(1, 31, 0), 0);
        Check.due("places, as its records are gone", z.count(9), 0);
        Check.badState("to load from it", z, on -> on.load(0, 1, 0));
        Check.badState("to end it", z, on -> on.end(1));
    }

    private static void victimsOfGroups() {
        Check.terms("Who is killed is the living space of the group, or of all");
        Pagewright x = placesTaken(0, 1, 1, 1);
        large(x, 1, 0, 2);
        large(x, 2, 0, 2);
        x.adjust(3, 9);
        x.end(3);
        x.limit(1, 4);
        x.adjust(0, 50);
        Check.due("to load by the second one of the group", x.load(0, 2, 9), 0);
        Check.due("the first one of the group, as the greater one is dead", x.about(1, 0), 0);
        Check.due("the second one of the group", x.about(2, 0), 1);
        Check.due("the one of another group", x.about(0, 0), 1);
        Check.due("spaces killed", x.count(7), 1);
    }
}
