import java.util.function.Supplier;

/**
 * The order in which each call tests what it is given, and that a call that throws changes nothing: of calls that
 * several exceptions apply to, the one that the document names first is thrown. In Check.busy the spaces 0 and 2 live,
 * 1 is dead, and there is no space 3; the addresses 8 to 15 and 20 to 31 of the space 0 are not mapped.
 */
public final class RefusalsTest {
    private static final Supplier<Pagewright> BUSY = Check::busy;
    private static final Supplier<Pagewright> SIX = Check::busyWithSix;

    private RefusalsTest() {
    }

    public static void main(String[] args) {
        withoutSpaces();
        mapFirst();
        mapSecond();
        unmapAndProtect();
        move();
        accesses();
        joins();
        others();
        changesNothing();
        Check.finish("RefusalsTest");
    }

    private static void withoutSpaces() {
        Check.terms("if several exceptions apply, the one that its @throws lines name first is thrown.");
        Check.badArgument("space of no group, when there are 6", SIX, x -> x.space(3));
        Check.badState("space of a group, when there are 6", SIX, x -> x.space(2));
        Check.noSpace("fork of none, when there are 6", SIX, x -> x.fork(6));
        Check.badState("fork of a dead one, when there are 6", SIX, x -> x.fork(1));
        Check.badState("fork of a dead one, when there are 3", BUSY, x -> x.fork(1));
        Check.noSpace("end of none", BUSY, x -> x.end(3));
        Check.badState("end of a dead one", BUSY, x -> x.end(1));
        Check.noSpace("adjust of none by too much", BUSY, x -> x.adjust(3, 51));
        Check.badArgument("adjust of a dead one by too much", BUSY, x -> x.adjust(1, 51));
        Check.noSpace("merge of none", BUSY, x -> x.merge(3, true));
        // A new object has no space at all.
        Check.noSpace("load", Pagewright::new, x -> x.load(0, 0, 0));
        Check.noSpace("store", Pagewright::new, x -> x.store(1, 0, 31, 5));
        Check.noSpace("map", Pagewright::new, x -> x.map(0, 0, 1, 3, -1, 0, false, false));
        Check.noSpace("fork", Pagewright::new, x -> x.fork(0));
        Check.noSpace("merge", Pagewright::new, x -> x.merge(0, false));
    }

    private static void mapFirst() {
        Check.promise(3, "Throws `IndexOutOfBoundsException` if there is no such space");
        Check.noSpace("and from is out of range", BUSY, x -> x.map(3, 32, 1, 3, -1, 0, false, false));
        Check.noSpace("and count is", BUSY, x -> x.map(3, 24, 0, 3, -1, 0, false, false));
        Check.noSpace("and rights are", BUSY, x -> x.map(3, 24, 1, 4, -1, 0, false, false));
        Check.noSpace("and file is", BUSY, x -> x.map(3, 24, 1, 3, 3, 0, false, false));
        Check.noSpace("and index is", BUSY, x -> x.map(3, 24, 1, 3, 0, 8, false, false));
        Check.noSpace("and all are", BUSY, x -> x.map(-1, -1, 33, 0, -2, -1, true, true));
    }

    private static void mapSecond() {
        Check.promise(3, "Throws `IllegalArgumentException` if from, count, rights, file or index is out of range");
        for (int space = 0; space <= 1; space++) {
            // The space 0 has pages at these addresses; the space 1 is dead.
            int in = space;
            Check.badArgument("from, and dead", BUSY, x -> x.map(in, 32, 1, 3, -1, 0, false, false));
            Check.badArgument("count, and mapped or dead", BUSY, x -> x.map(in, 0, 33, 3, -1, 0, false, false));
            Check.badArgument("rights, and mapped or dead", BUSY, x -> x.map(in, 0, 1, 0, -1, 0, false, false));
            Check.badArgument("file, and mapped or dead", BUSY, x -> x.map(in, 0, 1, 3, -2, 0, false, false));
            Check.badArgument("index, and mapped or dead", BUSY, x -> x.map(in, 0, 1, 3, 0, -1, false, false));
            Check.badArgument("the last index, and mapped or dead", BUSY, x -> x.map(in, 0, 2, 3, 0, 7, false, false));
            Check.badState("none of these", BUSY, x -> x.map(in, 0, 2, 3, 0, 6, false, false));
        }
        Check.promise(3, "Throws `IllegalStateException` if the space is dead, or one of these addresses is mapped");
        Check.badState("dead, though nothing is mapped", BUSY, x -> x.map(1, 0, 32, 3, -1, 0, false, false));
        Check.badState("the last one is mapped, the others are not", BUSY, x -> x.map(0, 8, 9, 3, -1, 0, true, true));
        Check.due("none is mapped", Check.busy().map(0, 8, 8, 1, -1, 0, true, true), 3);
    }

    private static void unmapAndProtect() {
        int[][] bad = {{32, 1}, {0, 0}, {0, 33}, {31, 2}};
        Check.promise(4, "Throws `IndexOutOfBoundsException` if there is no such space");
        for (int[] s : bad) {
            Check.noSpace("and from or count is out of range", BUSY, x -> x.unmap(3, s[0], s[1]));
        }
        Check.promise(4, "Throws `IllegalArgumentException` if from or count is out of range");
        for (int[] s : bad) {
            Check.badArgument("and dead", BUSY, x -> x.unmap(1, s[0], s[1]));
        }
        Check.promise(5, "Throws `IndexOutOfBoundsException` if there is no such space");
        for (int[] s : bad) {
            Check.noSpace("and from or count is out of range", BUSY, x -> x.protect(3, s[0], s[1], 3));
        }
        Check.noSpace("and rights are", BUSY, x -> x.protect(3, 0, 1, 0));
        Check.promise(5, "Throws `IllegalArgumentException` if from, count or rights is out of range");
        for (int[] s : bad) {
            Check.badArgument("and dead", BUSY, x -> x.protect(1, s[0], s[1], 3));
        }
        Check.badArgument("rights, and dead", BUSY, x -> x.protect(1, 0, 1, 4));
    }

    private static void move() {
        int[][] bad = {{32, 1, 0}, {0, 0, 8}, {0, 33, 0}, {31, 2, 0}, {0, 1, 32}, {0, 2, 31}, {0, 1, -1}};
        Check.promise(6, "Throws `IndexOutOfBoundsException` if there is no such space");
        for (int[] m : bad) {
            Check.noSpace("and one is out of range", BUSY, x -> x.move(3, m[0], m[1], m[2]));
        }
        Check.promise(6, "Throws `IllegalArgumentException` if from, count or to is out of range");
        for (int[] m : bad) {
            Check.badArgument("and dead", BUSY, x -> x.move(1, m[0], m[1], m[2]));
        }
        Check.badArgument("to, and none is mapped", BUSY, x -> x.move(0, 24, 2, 31));
        Check.badArgument("from, and to is mapped", BUSY, x -> x.move(0, 31, 2, 0));
        Check.badArgument("count, and all onto themselves", BUSY, x -> x.move(0, 0, 33, 0));
        Check.promise(6, "Throws `IllegalStateException` if the space is dead");
        Check.badState("of what is not mapped, onto what is", BUSY, x -> x.move(0, 24, 2, 0));
        Check.badState("of what is not mapped, onto what is not", BUSY, x -> x.move(0, 24, 2, 28));
        Check.badState("of what is mapped, onto what is", BUSY, x -> x.move(0, 0, 2, 16));
    }

    private static void accesses() {
        Check.promise(11, "Throws `IndexOutOfBoundsException` if there is no such processor or space");
        Check.noSpace("load: no processor, no space, no address", BUSY, x -> x.load(2, 3, 32));
        Check.noSpace("load: no processor, no address of a dead one", BUSY, x -> x.load(2, 1, 32));
        Check.noSpace("load: no processor, a dead one", BUSY, x -> x.load(-1, 1, 0));
        Check.noSpace("load: no space, no address", BUSY, x -> x.load(0, 3, 32));
        Check.promise(11, "Throws `IllegalArgumentException` if address is out of range");
        Check.badArgument("load: no address of a dead one", BUSY, x -> x.load(0, 1, 32));
        Check.promise(12, "Throws `IndexOutOfBoundsException` if there is no such processor or space");
        Check.noSpace("store: no processor, no space, no address, no value", BUSY, x -> x.store(2, 3, 32, -1));
        Check.noSpace("store: no processor, no value", BUSY, x -> x.store(2, 0, 0, 100000));
        Check.noSpace("store: no processor, a dead one", BUSY, x -> x.store(-1, 1, 0, 1));
        Check.noSpace("store: no space, no value", BUSY, x -> x.store(0, 3, 0, -1));
        Check.noSpace("store: no space, no address", BUSY, x -> x.store(0, 3, -1, 0));
        Check.promise(12, "Throws `IllegalArgumentException` if address or value is out of range");
        Check.badArgument("store: no address of a dead one", BUSY, x -> x.store(0, 1, 32, 1));
        Check.badArgument("store: no value into a dead one", BUSY, x -> x.store(0, 1, 0, -1));
        Check.badArgument("store: no value, where nothing is mapped", BUSY, x -> x.store(0, 0, 25, 100000));
    }

    private static void joins() {
        Check.promise(19, "Throws `IndexOutOfBoundsException` if there is no such space");
        Check.noSpace("and address is out of range", BUSY, x -> x.join(3, 32));
        Check.noSpace("and address is no multiple of 4", BUSY, x -> x.join(-1, 2));
        Check.promise(19, "Throws `IllegalArgumentException` if address is out of range, or no multiple of 4");
        Check.badArgument("out of range, of a dead one", BUSY, x -> x.join(1, 32));
        Check.badArgument("no multiple, of a dead one", BUSY, x -> x.join(1, 2));
        Check.badArgument("no multiple, in what is a block", BUSY, x -> x.join(0, 1));
        Check.promise(19, "Throws `IllegalStateException` if they cannot be a block, or are one");
        Check.badState("a dead one's", BUSY, x -> x.join(1, 0));
        Check.badState("what is a block", BUSY, x -> x.join(0, 0));
    }

    private static void others() {
        Check.promise(22, "Throws `IndexOutOfBoundsException` if there is no such space");
        Check.noSpace("entry: and no address", BUSY, x -> x.entry(3, 32, 0));
        Check.noSpace("entry: and no such number", BUSY, x -> x.entry(3, 0, 6));
        Check.promise(25, "Throws `IndexOutOfBoundsException` if there is no such space");
        Check.noSpace("about: and no such number", BUSY, x -> x.about(3, 6));
    }

    private static void changesNothing() {
        Check.terms("A call that throws an exception changes nothing");
        // The processor would have handled its messages, and what is not mapped would have been by an access.
        Check.badState("a load from a dead one by a processor with messages", () -> {
            Pagewright x = Check.busy();
            x.load(0, 0, 0);
            x.unmap(0, 0, 1);
            return x;
        }, x -> x.load(0, 1, 0));
        Check.badArgument("a store of no value below what grows", BUSY, x -> x.store(0, 2, 8, 100000));
        // Those ahead of what is refused would have been mapped, unmapped or moved.
        Check.badState("map up to what is mapped", BUSY, x -> x.map(0, 8, 24, 3, -1, 0, false, true));
        Check.badState("move up to what is not mapped", BUSY, x -> x.move(0, 4, 4, 24));
        Check.badState("move up to what is mapped", BUSY, x -> x.move(0, 0, 4, 13));
        Check.badState("fork, when there are 6, of one that is writable", SIX, x -> x.fork(0));
        Check.badArgument("a limit that would be the group's", BUSY, x -> x.limit(0, 25));
        Check.badArgument("a scan of more than there are", BUSY, x -> x.scan(193));
        Check.badArgument("a reclaim of more than there are", BUSY, x -> x.reclaim(25));
        Check.badArgument("a write of too much", BUSY, x -> x.write(0, 0, 100000));
        Check.badArgument("adjust by too much", BUSY, x -> x.adjust(0, -51));
    }
}
