/** Promises 17 and 18, reclaim and handle, and what the terms say of lists, refaults, records, limits and killing. */
public final class ReclaimTest {
    private ReclaimTest() {
    }

    public static void main(String[] args) {
        secondLooks();
        fewer();
        refaults();
        distance();
        store();
        places();
        noRoom();
        groupsApart();
        killing();
        killingTheNeedy();
        sharedInGroups();
        handling();
        Check.finish("ReclaimTest");
    }

    private static void lists(String what, Pagewright x, String idle, String active) {
        StringBuilder s = new StringBuilder();
        for (int list = 0; list <= 1; list++) {
            for (int place = 0; x.list(list, place) != Pagewright.NONE; place++) {
                s.append(x.list(list, place)).append(' ');
            }
            s.append('|');
        }
        Check.due(what, s.toString(), idle + "|" + active + "|");
    }

    private static void secondLooks() {
        Pagewright x = Check.withSpace(1, 2, 3, 4);
        lists("new pages", x, "0 1 2 3 ", "");
        // 0 and 1 go to ACTIVE; with 2 it has more, 0 comes back; 3 then goes, and 1 comes back; 0 is evicted.
        Check.due("reclaim", x.reclaim(1), 1);
        lists("behind one", x, "1 ", "2 3 ");
        Check.due("the evicted one", x.entry(0, 0, 1), 2);
        Check.due("whether one is seen still", x.frame(3, 3), 0);
        x.load(0, 0, 1);
        // 2 comes to IDLE; 1 is seen and goes; ACTIVE is 3 1, so 3 comes; 2 is evicted.
        Check.due("reclaim", x.reclaim(1), 1);
        lists("behind the second", x, "3 ", "1 ");
        Check.due("the evicted one", x.entry(0, 2, 1), 2);
        Check.due("evicted", x.count(2), 2);
        // What comes back from ACTIVE is not seen, though it was since.
        Pagewright y = Check.withSpace(1, 2, 3, 4);
        y.reclaim(1);
        y.load(0, 0, 2);
        Check.due("a page of ACTIVE that is seen", y.frame(2, 3), 1);
        y.reclaim(1);
        lists("behind two", y, "2 ", "3 ");
        Check.due("whether it is seen in IDLE", y.frame(2, 3), 0);
    }

    private static void fewer() {
        Pagewright x = Check.withSpace(1, 2);
        Check.due("reclaim of more than there are", x.reclaim(24), 2);
        Check.due("reclaim of none", x.reclaim(1), 0);
        lists("nothing", x, "", "");
    }

    private static void refaults() {
        Pagewright x = new Pagewright();
        for (int i = 0; i < 4; i++) {
            x.read(0, i);
        }
        Check.due("refaults at first", x.count(3), 0);
        x.write(0, 1, 0);
        // As in secondLooks: 0 is evicted, and 2 and 3 are in ACTIVE.
        x.reclaim(1);
        Check.due("the first one is not cached", x.frame(0, 0), 0);
        x.read(0, 0);
        Check.due("refaults, 0 evicted since, 2 in ACTIVE", x.count(3), 1);
        lists("the refault is in ACTIVE", x, "1 ", "2 3 0 ");
        Check.due("values read", x.count(4), 5);
        Check.due("values written for a clean page", x.count(5), 0);
        x.reclaim(1);
        Check.due("values written for a dirty page, though of the same value", x.count(5), 1);
    }

    private static void distance() {
        Pagewright x = new Pagewright();
        for (int i = 0; i < 8; i++) {
            x.read(0, i);
        }
        x.reclaim(1);
        lists("behind one", x, "1 2 3 ", "4 5 6 7 ");
        x.reclaim(3);
        // 4 came for 1, 5 for 2 and 3: IDLE 4, 5 and ACTIVE 6, 7.
        lists("behind four", x, "4 5 ", "6 7 ");
        x.read(0, 1);
        Check.due("refaults, 2 evicted since, 2 in ACTIVE", x.count(3), 1);
        x.read(0, 0);
        Check.due("refaults, 3 evicted since, 3 in ACTIVE", x.count(3), 2);
        Pagewright y = new Pagewright();
        for (int i = 0; i < 8; i++) {
            y.read(0, i);
        }
        y.reclaim(4);
        y.read(0, 0);
        Check.due("refaults, 3 evicted since, 2 in ACTIVE", y.count(3), 0);
        lists("no refault is in IDLE", y, "4 5 0 ", "6 7 ");
        y.read(1, 0);
        Check.due("refaults of what was never evicted", y.count(3), 0);
    }

    private static void store() {
        // Eviction is in the order of the addresses, as withSpace sees each page once.
        Pagewright x = Check.withSpace(99, 100, 9999, 0);
        x.reclaim(4);
        Check.due("the store's use", x.count(8), 6);
        Check.due("places", x.count(9), 0);
        x.load(0, 0, 0);
        Check.due("the store's use without a small one", x.count(8), 5);
        x.load(0, 0, 1);
        Check.due("the store's use without a middle one", x.count(8), 3);
        Check.due("the value", x.load(0, 0, 2), 9999);
        Pagewright y = Check.withSpace(100, 101, 102, 103, 104, 5);
        y.reclaim(4);
        Check.due("a full store", y.count(8), 8);
        y.reclaim(1);
        Check.due("it is full again", y.count(8), 8);
        Check.due("what was in it longest", y.entry(0, 0, 4), 0);
        Check.due("the one behind it", y.entry(0, 1, 4), 10);
        y.reclaim(1);
        Check.due("a small one puts out a middle one", y.count(8), 7);
        Check.due("the lowest free place", y.entry(0, 1, 4), 1);
        y.load(0, 0, 0);
        Check.due("places, as one is left", y.count(9), 1);
        Check.due("the other stays where it is", y.entry(0, 1, 4), 1);
    }

    private static void places() {
        Pagewright x = Check.withSpace(10000, 1, 99999);
        x.reclaim(3);
        Check.due("a large one goes to a place at once", x.entry(0, 0, 4), 0);
        Check.due("a small one does not", x.entry(0, 1, 4), 10);
        Check.due("the next place", x.entry(0, 2, 4), 1);
        Check.due("places", x.count(9), 2);
        Check.due("its value", x.load(0, 0, 0), 10000);
        Check.due("places", x.count(9), 1);
        x.store(0, 0, 3, 20000);
        x.reclaim(2);
        Check.due("the lowest free place again", x.entry(0, 0, 4) == 0 || x.entry(0, 3, 4) == 0 ? 1 : 0, 1);
        Check.due("places", x.count(9), 3);
    }

    private static void noRoom() {
        int[] large = new int[12];
        for (int i = 0; i < 12; i++) {
            large[i] = 50000 + i;
        }
        Pagewright x = Check.withSpace(large);
        Check.due("reclaim as far as there are places", x.reclaim(24), 10);
        Check.due("places", x.count(9), 10);
        Check.due("reclaim then", x.reclaim(1), 0);
        Check.due("a large one is not evicted", x.about(0, 2), 2);
        x.store(0, 0, 12, 7);
        Check.due("reclaim of a small one, for which the store has room", x.reclaim(2), 1);
        Check.due("where it is", x.entry(0, 12, 4), 10);
        x.read(0, 0);
        Check.due("reclaim of a cached one", x.reclaim(2), 1);
        // The store gives nothing up when no place is free.
        Pagewright y = Check.withSpace(50000, 50001, 50002, 50003, 50004, 50005, 50006, 50007, 50008, 50009,
                100, 101, 102, 103, 104);
        Check.due("reclaim till the store is full", y.reclaim(24), 14);
        Check.due("the store's use", y.count(8), 8);
        Check.due("what is left", y.about(0, 2), 1);
        y.unmap(0, 3, 1);
        Check.due("reclaim with a place free again", y.reclaim(1), 1);
        Check.due("the oldest of the store is at it", y.entry(0, 10, 4), 3);
    }

    private static void groupsApart() {
        Pagewright x = new Pagewright();
        x.space(0);
        x.space(1);
        x.map(0, 0, 8, 3, -1, 0, false, false);
        x.map(1, 0, 8, 3, -1, 0, false, false);
        x.store(0, 0, 0, 1);
        x.store(0, 1, 0, 2);
        x.store(0, 0, 1, 3);
        x.store(0, 1, 1, 4);
        x.limit(1, 2);
        // Of group 1: frame 1 and 3 are seen, so 1 goes to ACTIVE, 3 goes, 1 comes back, and is evicted.
        x.store(0, 1, 2, 5);
        lists("only the group's pages were moved", x, "0 2 4 ", "3 ");
        Check.due("the evicted one", x.entry(1, 0, 1), 2);
        Check.due("the other group's are seen still", x.frame(0, 3), 1);
        Check.due("a frame that is free is not enough for the group", x.limit(1, 2), 2);
    }

    private static void killing() {
        Pagewright x = new Pagewright();
        for (int i = 0; i < 4; i++) {
            x.space(0);
            x.map(i, 0, 32, 3, -1, 0, false, false);
        }
        // 10 places are filled, then 24 frames with what has no room.
        for (int a = 0; a < 10; a++) {
            x.store(0, 0, a, 50000);
        }
        x.reclaim(10);
        for (int a = 0; a < 8; a++) {
            x.store(0, 1, a, 60000);
            x.store(0, 2, a, 60000);
            x.store(0, 3, a, 60000);
        }
        Check.due("the first one's score", x.about(0, 5), 10);
        x.adjust(0, -3);
        x.adjust(1, 2);
        x.adjust(2, 2);
        Check.due("to store, for which the second is killed", x.store(1, 3, 8, 5), 0);
        Check.due("whether it lives", x.about(1, 0), 0);
        Check.due("whether the first one lives", x.about(0, 0), 1);
        Check.due("whether the third one lives", x.about(2, 0), 1);
        Check.due("spaces killed", x.count(7), 1);
        Check.due("pages evicted", x.count(2), 10);
        Check.badState("to load from it", x, on -> on.load(0, 1, 0));
    }

    private static void killingTheNeedy() {
        Pagewright x = new Pagewright();
        x.space(1);
        x.space(0);
        x.map(0, 0, 32, 3, -1, 0, false, false);
        x.map(1, 0, 32, 3, -1, 0, false, false);
        for (int a = 0; a < 10; a++) {
            x.store(0, 1, a, 50000);
        }
        x.reclaim(10);
        x.store(0, 0, 0, 60000);
        x.store(0, 0, 1, 60000);
        x.limit(1, 2);
        Check.due("to store when all of the group is full", x.store(0, 0, 2, 1), -4);
        Check.due("whether it lives", x.about(0, 0), 0);
        Check.due("whether the other lives, of another group", x.about(1, 0), 1);
        Check.due("spaces killed", x.count(7), 1);
        Check.due("the group's pages", x.limit(1, -1), 0);
        Check.due("misses", x.count(1), 13);
        // To load kills as well.
        x.limit(0, 1);
        x.store(0, 1, 10, 50000);
        Check.due("to load", x.load(1, 1, 11), -4);
        Check.due("places, as its records are gone", x.count(9), 0);
        // A call for a file kills too, but is needed by no space.
        Pagewright y = new Pagewright();
        y.space(2);
        y.space(0);
        y.map(0, 0, 32, 3, -1, 0, false, false);
        y.map(1, 0, 2, 3, -1, 0, false, false);
        for (int a = 0; a < 10; a++) {
            y.store(0, 0, a, 50000);
        }
        y.reclaim(10);
        y.store(0, 1, 0, 60000);
        y.store(0, 1, 1, 60000);
        for (int a = 10; a < 32; a++) {
            y.store(0, 0, a, 60000);
        }
        Check.due("to read when all frames are full", y.read(0, 0), 0);
        Check.due("spaces killed", y.count(7), 1);
        Check.due("whether the greater one lives", y.about(0, 0), 0);
        Check.due("its frames that no cache has are free, the lowest taken", y.frame(2, 0), 2);
    }

    private static void sharedInGroups() {
        // A page of group 1 that a space of group 0 has too stays when nobody of group 1 is left.
        Pagewright x = new Pagewright();
        x.space(1);
        x.space(0);
        x.map(0, 0, 4, 3, -1, 0, false, false);
        x.map(1, 0, 32, 3, -1, 0, false, false);
        for (int a = 0; a < 10; a++) {
            x.store(0, 1, a, 80000);
        }
        Check.due("reclaim, so that no place is free", x.reclaim(10), 10);
        x.store(0, 0, 0, 70000);
        x.store(0, 1, 31, 70000);
        x.merge(0, true);
        x.merge(1, true);
        Check.due("scan", x.scan(64), 1);
        Check.due("reclaim then", x.reclaim(1), 0);
        Check.due("the page's group", x.frame(x.entry(1, 31, 2), 5), 1);
        x.limit(1, 1);
        Check.due("to load", x.load(0, 0, 1), -4);
        Check.due("the page stays", x.frame(x.entry(1, 31, 2), 4), 1);
        x.space(1);
        x.map(2, 0, 1, 3, -1, 0, false, false);
        Check.due("the next space of the group is killed too", x.load(0, 2, 0), -4);
        Check.due("to read is not the group's", x.read(0, 0), 0);
        Check.due("spaces killed", x.count(7), 2);
        Check.due("pages of the group", x.limit(1, -1), 1);
    }

    private static void handling() {
        Pagewright x = Check.withSpace(1, 2, 3);
        x.load(1, 0, 0);
        x.unmap(0, 0, 2);
        Check.due("messages", x.count(10), 3);
        Check.due("handle of 0", x.handle(0), 2);
        Check.due("handle of 0 again", x.handle(0), 0);
        Check.due("the one that 1 has lingers", x.frame(0, 0), 3);
        Check.due("the other is free", x.frame(1, 0), 0);
        Check.due("handle of 1", x.handle(1), 1);
        Check.due("the one is free", x.frame(0, 0), 0);
        x.store(0, 0, 2, 4);
        Check.due("a translation without a message stayed", x.count(0), 1);
    }
}
