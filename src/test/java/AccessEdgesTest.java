import java.util.function.Supplier;

/** Promises 11 to 16, sentence by sentence: the last values allowed, the first ones not allowed, empty and full. */
public final class AccessEdgesTest {
    private static final int LOW = Integer.MIN_VALUE;
    private static final int HIGH = Integer.MAX_VALUE;
    private static final int[] NO_PROCESSORS = {-1, 2, LOW, HIGH};
    private static final int[] NO_SPACES = {-1, 3, 6, LOW, HIGH};
    private static final int[] NO_ADDRESSES = {-1, 32, LOW, HIGH};
    private static final int[] NO_VALUES = {-1, 100000, LOW, HIGH};
    private static final int[] NO_FILES = {-1, 3, LOW, HIGH};
    private static final int[] NO_INDICES = {-1, 8, LOW, HIGH};
    private static final Supplier<Pagewright> BUSY = Check::busy;

    private AccessEdgesTest() {
    }

    public static void main(String[] args) {
        loads();
        loadsAnswers();
        loadsRefused();
        stores();
        storesAnswers();
        storesRefused();
        reads();
        writes();
        filesRefused();
        syncs();
        disks();
        Check.finish("AccessEdgesTest");
    }

    /** Six spaces, the last of which has all addresses. */
    private static Pagewright six() {
        Pagewright x = new Pagewright();
        for (int i = 0; i < 6; i++) {
            x.space(i % 3);
        }
        x.map(0, 0, 1, 3, -1, 0, false, false);
        x.map(5, 0, 32, 3, -1, 0, false, false);
        return x;
    }

    /** The space 0 has all places; the space 1, whose score is less, or more if it is to be killed, has all frames. */
    private static Pagewright full(boolean firstIsKilled) {
        Pagewright x = new Pagewright();
        x.space(0);
        x.space(0);
        x.map(0, 0, 32, 3, -1, 0, false, false);
        x.map(1, 0, 32, 3, -1, 0, false, false);
        for (int a = 0; a < 10; a++) {
            x.store(0, 0, a, 50000);
        }
        x.reclaim(10);
        for (int a = 0; a < 24; a++) {
            x.store(0, 1, a, 60000);
        }
        x.adjust(0, firstIsKilled ? 15 : 13);
        return x;
    }

    private static void loads() {
        Check.promise(11, "`processor`: 0 or 1");
        Pagewright x = six();
        Check.due("load by 0", x.load(0, 5, 7), 0);
        Check.due("load by 1", x.load(1, 5, 7), 0);
        Check.due("misses, one of each", x.count(1), 2);
        x.load(1, 5, 7);
        Check.due("hits, of the one that has it", x.count(0), 1);
        Check.promise(11, "`space`: a space");
        x.store(0, 5, 0, 6);
        Check.due("load from the space 5", x.load(0, 5, 0), 6);
        Check.due("load from the space 0", x.load(0, 0, 0), 0);
        Check.promise(11, "`address`: 0 to 31");
        Check.due("load from 0", x.load(0, 5, 0), 6);
        Check.due("the entry at 31 ahead", x.entry(5, 31, 1), Pagewright.ABSENT);
        Check.due("load from 31", x.load(0, 5, 31), 0);
        Check.due("the entry at 31", x.entry(5, 31, 1), Pagewright.PRESENT);
        Check.promise(11, "Loads.");
        int used = x.frame(x.entry(5, 0, 2), 1);
        x.load(0, 5, 0);
        Check.due("the value behind a load", x.frame(x.entry(5, 0, 2), 1), used);
    }

    private static void loadsAnswers() {
        Check.promise(11, "Returns the value, or NOT_MAPPED, NO_RIGHT, KILLED, FULL.");
        Pagewright x = new Pagewright();
        x.space(0);
        x.map(0, 3, 2, 2, -1, 0, false, false);
        x.map(0, 10, 1, 3, -1, 0, false, false);
        x.store(0, 0, 10, 99999);
        Check.due("the greatest value", x.load(0, 0, 10), 99999);
        x.store(0, 0, 10, 0);
        Check.due("the least value", x.load(1, 0, 10), 0);
        Check.due("below what is mapped", x.load(0, 0, 2), Pagewright.NOT_MAPPED);
        Check.due("above what is mapped", x.load(0, 0, 5), Pagewright.NOT_MAPPED);
        Check.due("without the right", x.load(0, 0, 3), Pagewright.NO_RIGHT);
        Check.due("the space is killed", full(false).load(0, 1, 24), Pagewright.KILLED);
        // FULL cannot be reached: who needs the page is killed itself, at last.
        Pagewright y = full(true);
        Check.due("another one is killed", y.load(0, 1, 24), 0);
        Check.due("spaces killed", y.count(7), 1);
        Check.badState("load from the one that was killed", y, on -> on.load(0, 0, 0));
    }

    private static void loadsRefused() {
        Check.promise(11, "Throws `IndexOutOfBoundsException` if there is no such processor or space");
        for (int processor : NO_PROCESSORS) {
            Check.noSpace("load by " + processor, BUSY, x -> x.load(processor, 0, 0));
            Check.noSpace("load by none from no address", BUSY, x -> x.load(processor, 0, 32));
            Check.noSpace("load by none from a dead one", BUSY, x -> x.load(processor, 1, 0));
        }
        for (int space : NO_SPACES) {
            Check.noSpace("load from the space " + space, BUSY, x -> x.load(0, space, 0));
            Check.noSpace("load from no space and no address", BUSY, x -> x.load(1, space, -1));
        }
        Check.promise(11, "Throws `IllegalArgumentException` if address is out of range");
        for (int address : NO_ADDRESSES) {
            Check.badArgument("load from " + address, BUSY, x -> x.load(0, 0, address));
            Check.badArgument("load from " + address + " of a dead one", BUSY, x -> x.load(0, 1, address));
        }
        Check.promise(11, "Throws `IllegalStateException` if the space is dead");
        for (int processor = 0; processor <= 1; processor++) {
            int by = processor;
            Check.badState("load from a dead one", BUSY, x -> x.load(by, 1, 0));
            Check.badState("load from the end of a dead one", BUSY, x -> x.load(by, 1, 31));
        }
    }

    private static void stores() {
        Check.promise(12, "`processor`: 0 or 1");
        Pagewright x = six();
        Check.due("store by 0", x.store(0, 5, 7, 1), 0);
        Check.due("store by 1", x.store(1, 5, 7, 2), 1);
        Check.due("misses, one of each", x.count(1), 2);
        Check.promise(12, "`space`: a space");
        Check.due("store into the space 0", x.store(0, 0, 0, 3), 0);
        Check.due("store into the space 5", x.store(0, 5, 0, 4), 0);
        Check.due("the value of the space 0", x.load(1, 0, 0), 3);
        Check.promise(12, "`address`: 0 to 31");
        x.store(0, 5, 31, 5);
        x.store(0, 5, 0, 6);
        Check.due("the value at 31", x.load(1, 5, 31), 5);
        Check.due("the value at 0", x.load(1, 5, 0), 6);
        Check.promise(12, "`value`: 0 to 99999");
        x.store(0, 5, 9, 99999);
        Check.due("the greatest one", x.load(0, 5, 9), 99999);
        x.store(0, 5, 9, 0);
        Check.due("the least one", x.load(0, 5, 9), 0);
        Check.promise(12, "Stores.");
        x.store(0, 5, 9, 12);
        Check.due("the page's value", x.frame(x.entry(5, 9, 2), 1), 12);
    }

    private static void storesAnswers() {
        Check.promise(12, "Returns the value before, or NOT_MAPPED, NO_RIGHT, KILLED, FULL.");
        Pagewright x = new Pagewright();
        x.space(0);
        x.map(0, 3, 2, 1, -1, 0, false, false);
        x.map(0, 10, 1, 3, -1, 0, false, false);
        Check.due("behind none", x.store(0, 0, 10, 99999), 0);
        Check.due("behind the greatest one", x.store(0, 0, 10, 5), 99999);
        Check.due("below what is mapped", x.store(0, 0, 2, 1), Pagewright.NOT_MAPPED);
        Check.due("above what is mapped", x.store(0, 0, 5, 1), Pagewright.NOT_MAPPED);
        Check.due("without the right", x.store(0, 0, 4, 1), Pagewright.NO_RIGHT);
        x.protect(0, 4, 1, 3);
        Check.due("what was not stored", x.store(0, 0, 4, 1), 0);
        Check.due("the space is killed", full(false).store(0, 1, 24, 1), Pagewright.KILLED);
        // FULL cannot be reached: who needs the page is killed itself, at last.
        Pagewright y = full(true);
        Check.due("another one is killed", y.store(0, 1, 24, 1), 0);
        Check.due("what was stored", y.load(0, 1, 24), 1);
    }

    private static void storesRefused() {
        Check.promise(12, "Throws `IndexOutOfBoundsException` if there is no such processor or space");
        for (int processor : NO_PROCESSORS) {
            Check.noSpace("store by " + processor, BUSY, x -> x.store(processor, 0, 0, 1));
            Check.noSpace("store by none of no value", BUSY, x -> x.store(processor, 1, 32, -1));
        }
        for (int space : NO_SPACES) {
            Check.noSpace("store into the space " + space, BUSY, x -> x.store(0, space, 0, 1));
            Check.noSpace("store into no space at no address", BUSY, x -> x.store(1, space, -1, 100000));
        }
        Check.promise(12, "Throws `IllegalArgumentException` if address or value is out of range");
        for (int address : NO_ADDRESSES) {
            Check.badArgument("store at " + address, BUSY, x -> x.store(0, 0, address, 1));
            Check.badArgument("store at " + address + " of a dead one", BUSY, x -> x.store(0, 1, address, 1));
        }
        for (int value : NO_VALUES) {
            Check.badArgument("store of " + value, BUSY, x -> x.store(0, 0, 0, value));
            Check.badArgument("store of " + value + " into a dead one", BUSY, x -> x.store(0, 1, 0, value));
            Check.badArgument("store of " + value + " where nothing is mapped", BUSY, x -> x.store(1, 0, 25, value));
        }
        Check.promise(12, "Throws `IllegalStateException` if the space is dead");
        Check.badState("store into a dead one", BUSY, x -> x.store(0, 1, 0, 0));
        Check.badState("store of the greatest at its end", BUSY, x -> x.store(1, 1, 31, 99999));
    }

    private static void reads() {
        Check.promise(13, "`file`: 0 to 2");
        Pagewright x = new Pagewright();
        for (int file = 0; file <= 2; file++) {
            Check.due("read of the file " + file, x.read(file, 3), 0);
            Check.due("its page", x.frame(file, 7), 10 * file + 3);
        }
        Check.promise(13, "`index`: 0 to 7");
        Check.due("read of the index 0", x.read(1, 0), 0);
        Check.due("its page", x.frame(3, 7), 10);
        Check.due("read of the index 7", x.read(1, 7), 0);
        Check.due("its page", x.frame(4, 7), 17);
        Check.promise(13, "Reads a file.");
        x.write(2, 7, 8);
        x.sync(2);
        x.reclaim(24);
        Check.due("what was on the disk alone", x.read(2, 7), 8);
        Check.due("what stands beside it", x.read(2, 6), 0);
        Check.promise(13, "Returns the value, or FULL.");
        x.write(0, 0, 99999);
        Check.due("the greatest value", x.read(0, 0), 99999);
        // FULL cannot be reached: when nobody is left, there are cached pages alone, one of which can be evicted.
        Pagewright y = full(true);
        y.end(0);
        Check.due("when all frames have pages, and places are free", y.read(1, 1), 0);
        Pagewright z = full(false);
        z.limit(0, 1);
        Check.due("when all of the group is killed for it", z.read(1, 1), 0);
        Check.due("spaces killed", z.count(7), 1);
        Pagewright all = new Pagewright();
        for (int i = 0; i < 24; i++) {
            all.read(i / 8, i % 8);
        }
        all.space(0);
        all.map(0, 0, 1, 3, -1, 0, false, false);
        all.load(0, 0, 0);
        all.end(0);
        all.limit(0, 1);
        Check.due("when nobody lives", all.read(0, 0), 0);
    }

    private static void writes() {
        Check.promise(14, "`file`: 0 to 2");
        Pagewright x = new Pagewright();
        for (int file = 0; file <= 2; file++) {
            x.write(file, 3, 5 + file);
        }
        Check.due("the file 0", x.read(0, 3), 5);
        Check.due("the file 2", x.read(2, 3), 7);
        Check.promise(14, "`index`: 0 to 7");
        x.write(1, 0, 8);
        x.write(1, 7, 9);
        Check.due("the index 0", x.read(1, 0), 8);
        Check.due("the index 7", x.read(1, 7), 9);
        Check.promise(14, "`value`: 0 to 99999");
        x.write(1, 1, 99999);
        Check.due("the greatest one", x.read(1, 1), 99999);
        x.write(1, 1, 0);
        Check.due("the least one", x.read(1, 1), 0);
        Check.promise(14, "Writes into a file.");
        Check.due("its page is dirty, though of the value on the disk", x.frame(5, 6), 1);
        Check.due("the disk", x.disk(1, 7), 0);
        Check.promise(14, "Returns the value before, or FULL.");
        Check.due("of one that is cached", x.write(1, 7, 10), 9);
        Check.due("of one that is not", x.write(2, 0, 11), 0);
        x.sync(2);
        x.reclaim(24);
        Check.due("of one that is on the disk alone", x.write(2, 0, 12), 11);
        // FULL cannot be reached, as for read.
        Pagewright y = full(false);
        y.limit(0, 1);
        Check.due("when all of the group is killed for it", y.write(1, 1, 6), 0);
        Check.due("what was written", y.read(1, 1), 6);
    }

    private static void filesRefused() {
        Check.promise(13, "Throws `IllegalArgumentException` if file or index is out of range");
        for (int file : NO_FILES) {
            Check.badArgument("read of the file " + file, BUSY, x -> x.read(file, 0));
        }
        for (int index : NO_INDICES) {
            Check.badArgument("read of the index " + index, BUSY, x -> x.read(1, index));
        }
        Check.badArgument("read of what would be another file's", BUSY, x -> x.read(-1, 8));
        Check.promise(14, "Throws `IllegalArgumentException` if file, index or value is out of range");
        for (int file : NO_FILES) {
            Check.badArgument("write into the file " + file, BUSY, x -> x.write(file, 0, 1));
        }
        for (int index : NO_INDICES) {
            Check.badArgument("write at the index " + index, BUSY, x -> x.write(1, index, 1));
        }
        for (int value : NO_VALUES) {
            Check.badArgument("write of " + value, BUSY, x -> x.write(1, 4, value));
        }
        Check.promise(15, "Throws `IllegalArgumentException` if file is out of range");
        for (int file : NO_FILES) {
            Check.badArgument("sync of " + file, BUSY, x -> x.sync(file));
        }
        Check.promise(16, "Throws `IllegalArgumentException` if file or index is out of range");
        for (int file : NO_FILES) {
            Check.badArgument("disk of the file " + file, BUSY, x -> x.disk(file, 0));
        }
        for (int index : NO_INDICES) {
            Check.badArgument("disk of the index " + index, BUSY, x -> x.disk(1, index));
        }
        Check.badArgument("disk of what would be another file's", BUSY, x -> x.disk(0, 9));
    }

    private static void syncs() {
        Check.promise(15, "`file`: 0 to 2");
        Pagewright x = new Pagewright();
        for (int file = 0; file <= 2; file++) {
            x.write(file, 2, 5 + file);
        }
        Check.due("sync of 0", x.sync(0), 1);
        Check.due("sync of 2", x.sync(2), 1);
        Check.due("the disk of 0", x.disk(0, 2), 5);
        Check.due("the disk of 1", x.disk(1, 2), 0);
        Check.due("the disk of 2", x.disk(2, 2), 7);
        Check.promise(15, "Returns how many were dirty.");
        Check.due("none, as all are clean", x.sync(0), 0);
        Check.due("none, as nothing is cached", new Pagewright().sync(0), 0);
        Pagewright y = new Pagewright();
        for (int index = 0; index < 8; index++) {
            y.write(1, index, index);
        }
        y.read(0, 0);
        y.write(2, 0, 1);
        Check.due("all of a file", y.sync(1), 8);
        Check.promise(15, "Writes all dirty pages of a file to the disk");
        Check.due("the disk's first one, of the same value", y.disk(1, 0), 0);
        Check.due("the disk's last one", y.disk(1, 7), 7);
        Check.due("values written", y.count(5), 8);
        Check.due("whether the other file's is dirty", y.frame(9, 6), 1);
        Check.promise(15, "they are clean then, and their entries not writable.");
        Pagewright z = new Pagewright();
        z.space(0);
        z.space(0);
        z.map(0, 0, 2, 3, 1, 0, true, false);
        z.map(1, 31, 1, 3, 1, 0, true, false);
        z.map(1, 0, 1, 3, 0, 0, true, false);
        z.store(0, 0, 0, 5);
        z.store(1, 1, 31, 6);
        z.store(0, 1, 0, 7);
        z.load(0, 0, 1);
        Check.due("how many were dirty", z.sync(1), 1);
        Check.due("whether it is dirty", z.frame(0, 6), 0);
        Check.due("whether one entry is writable", z.entry(0, 0, 3), 0);
        Check.due("whether another one is", z.entry(1, 31, 3), 0);
        Check.due("whether another file's is", z.entry(1, 0, 3), 1);
        Check.due("messages to those that had it writable", z.count(10), 2);
        Check.due("whether it stays cached", z.frame(0, 0), 2);
    }

    private static void disks() {
        Check.promise(16, "`file`: 0 to 2");
        Pagewright x = new Pagewright();
        x.write(0, 0, 1);
        x.write(0, 7, 2);
        x.write(2, 0, 3);
        x.write(2, 7, 4);
        for (int file = 0; file <= 2; file++) {
            x.sync(file);
        }
        Check.due("disk(0, 0)", x.disk(0, 0), 1);
        Check.due("disk(2, 0)", x.disk(2, 0), 3);
        Check.due("disk(1, 0)", x.disk(1, 0), 0);
        Check.promise(16, "`index`: 0 to 7");
        Check.due("disk(0, 7)", x.disk(0, 7), 2);
        Check.due("disk(2, 7)", x.disk(2, 7), 4);
        Check.due("disk(2, 6)", x.disk(2, 6), 0);
        Check.promise(16, "Returns a value on the disk.");
        x.write(2, 7, 9);
        Check.due("ahead of writing it", x.disk(2, 7), 4);
        Check.due("values read from the disk by asking", x.count(4), 4);
        x.sync(2);
        Check.promise(16, "Returns the value.");
        Check.due("behind that", x.disk(2, 7), 9);
        x.write(1, 3, 99999);
        x.sync(1);
        Check.due("the greatest one", x.disk(1, 3), 99999);
        for (int i = 0; i < 24; i++) {
            Check.due("at first", new Pagewright().disk(i / 8, i % 8), 0);
        }
    }
}
