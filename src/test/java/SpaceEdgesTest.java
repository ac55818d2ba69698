import java.util.function.Supplier;

/** Promises 1 to 10, sentence by sentence: the last values allowed, the first ones not allowed, empty and full. */
public final class SpaceEdgesTest {
    private static final int LOW = Integer.MIN_VALUE;
    private static final int HIGH = Integer.MAX_VALUE;
    private static final int[] NO_SPACES = {-1, 3, 6, LOW, HIGH};
    private static final int[] NO_ADDRESSES = {-1, 32, LOW, HIGH};
    private static final int[] NO_RIGHTS = {0, 4, -1, LOW, HIGH};
    /** From where, and how many: one of these is out of range by itself, or the last address is above 31. */
    private static final int[][] NO_STRETCHES = {
        {0, 0}, {0, -1}, {0, 33}, {0, LOW}, {0, HIGH}, {30, 3}, {31, 2}, {1, 32}, {31, HIGH}, {31, 0}, {-1, 1}, {32, 1},
        {-1, 32}, {HIGH, HIGH}, {LOW, LOW},
    };
    private static final Supplier<Pagewright> BUSY = Check::busy;
    private static final Supplier<Pagewright> SIX = Check::busyWithSix;

    private SpaceEdgesTest() {
    }

    public static void main(String[] args) {
        newObject();
        space();
        mapsStretches();
        mapsRights();
        mapsFiles();
        mapsRegions();
        mapsRefused();
        unmaps();
        unmapsRefused();
        protects();
        protectsRefused();
        moves();
        movesRefused();
        movesOntoOthers();
        forks();
        ends();
        adjusts();
        limits();
        limitsCount();
        Check.finish("SpaceEdgesTest");
    }

    /** A new object with a space of the group 0. */
    private static Pagewright one() {
        Pagewright x = new Pagewright();
        x.space(0);
        return x;
    }

    private static Pagewright six() {
        Pagewright x = new Pagewright();
        for (int i = 0; i < 6; i++) {
            x.space(0);
        }
        return x;
    }

    private static int mapped(Pagewright x, int space) {
        int mapped = 0;
        for (int a = 0; a < 32; a++) {
            mapped += x.entry(space, a, 0) > 0 ? 1 : 0;
        }
        return mapped;
    }

    private static int plain(Pagewright x, int space, int from, int count) {
        return x.map(space, from, count, 3, -1, 0, false, false);
    }

    private static void newObject() {
        Check.promise(1, "No spaces");
        for (int space = -1; space <= 6; space++) {
            int none = space;
            Check.noSpace("about(" + space + ", 0)", new Pagewright(), x -> x.about(none, 0));
        }
        Check.due("the first space", new Pagewright().space(0), 0);
        Check.promise(1, "all frames are free");
        Pagewright x = new Pagewright();
        for (int f = 0; f < 24; f++) {
            Check.due("frame(" + f + ", 0)", x.frame(f, 0), 0);
        }
        Check.list("IDLE", x, Pagewright.IDLE);
        Check.list("ACTIVE", x, Pagewright.ACTIVE);
        Check.promise(1, "no limits.");
        for (int group = 0; group <= 2; group++) {
            Pagewright y = new Pagewright();
            y.space(group);
            plain(y, 0, 0, 32);
            for (int a = 0; a < 24; a++) {
                y.load(0, 0, a);
            }
            Check.due("pages evicted for 24 of the group " + group, y.count(2), 0);
            Check.due("pages of the group " + group, y.limit(group, -1), 24);
        }
    }

    private static void space() {
        Check.promise(2, "`group`: 0 to 2");
        for (int group = 0; group <= 2; group++) {
            Pagewright x = new Pagewright();
            Check.due("space(" + group + ")", x.space(group), 0);
            plain(x, 0, 0, 1);
            x.load(0, 0, 0);
            Check.due("the group of its page", x.frame(0, 5), group);
        }
        Check.promise(2, "Makes a space.");
        Pagewright made = new Pagewright();
        made.space(1);
        Check.due("whether it lives", made.about(0, 0), 1);
        Check.due("its regions", made.about(0, 1), 0);
        Check.due("its score", made.about(0, 5), 0);
        Check.noSpace("about the next one", made, x -> x.about(1, 0));
        Check.promise(2, "Returns its number.");
        Pagewright all = new Pagewright();
        for (int i = 0; i < 6; i++) {
            Check.due("the number of one more", all.space(2 - i % 3), i);
        }
        Check.promise(2, "Throws `IllegalArgumentException` if group is out of range");
        for (int group : new int[] {-1, 3, LOW, HIGH}) {
            Check.badArgument("space(" + group + ")", BUSY, x -> x.space(group));
            Check.badArgument("space(" + group + ") when there are 6", SIX, x -> x.space(group));
        }
        Check.promise(2, "Throws `IllegalStateException` if there are 6");
        for (int group = 0; group <= 2; group++) {
            int any = group;
            Check.badState("space(" + group + ")", SIX, x -> x.space(any));
        }
        Check.badState("space, though all six are dead", () -> {
            Pagewright x = six();
            for (int i = 0; i < 6; i++) {
                x.end(i);
            }
            return x;
        }, x -> x.space(0));
        Check.badState("space, as a fork is the sixth", () -> {
            Pagewright x = one();
            for (int i = 0; i < 5; i++) {
                x.fork(i);
            }
            return x;
        }, x -> x.space(0));
    }

    private static void mapsStretches() {
        Check.promise(3, "`space`: a space");
        Pagewright x = six();
        Check.due("map of the space 0", plain(x, 0, 4, 1), 1);
        Check.due("map of the space 5", plain(x, 5, 4, 1), 1);
        Check.due("what the space 1 has of that", x.about(1, 1), 0);
        Check.promise(3, "`from`: 0 to 31");
        Pagewright y = one();
        Check.due("map from 0", plain(y, 0, 0, 1), 1);
        Check.due("map from 31", plain(y, 0, 31, 1), 2);
        Check.due("rights of 0", y.entry(0, 0, 0), 3);
        Check.due("rights of 31", y.entry(0, 31, 0), 3);
        Check.due("how many are mapped", mapped(y, 0), 2);
        Check.promise(3, "`count`: 1 to 32: as many, up to 31");
        Pagewright z = one();
        Check.due("map of 1", plain(z, 0, 7, 1), 1);
        Check.due("how many are mapped", mapped(z, 0), 1);
        Check.due("map of 2 up to 31", plain(z, 0, 30, 2), 2);
        Check.due("how many are mapped", mapped(z, 0), 3);
        z.unmap(0, 0, 32);
        Check.due("map of 31 up to 31", plain(z, 0, 1, 31), 1);
        Check.due("how many are mapped", mapped(z, 0), 31);
        Check.due("rights of 0", z.entry(0, 0, 0), 0);
        z.unmap(0, 0, 32);
        Check.due("map of 32", plain(z, 0, 0, 32), 1);
        Check.due("how many are mapped", mapped(z, 0), 32);
    }

    private static void mapsRights() {
        Check.promise(3, "Maps addresses.");
        Pagewright w = one();
        plain(w, 0, 3, 2);
        Check.due("the entry of the first one", w.entry(0, 3, 1), Pagewright.ABSENT);
        Check.due("the entry of the last one", w.entry(0, 4, 1), Pagewright.ABSENT);
        Check.due("the entry ahead of them", w.entry(0, 2, 1), -1);
        Check.due("the entry behind them", w.entry(0, 5, 1), -1);
        Check.promise(3, "`rights`: 1 to 3");
        for (int rights = 1; rights <= 3; rights++) {
            Pagewright x = one();
            x.map(0, 9, 1, rights, -1, 0, false, false);
            Check.due("rights " + rights, x.entry(0, 9, 0), rights);
        }
        Check.promise(3, "`grows`: whether it grows");
        Pagewright x = one();
        x.map(0, 9, 1, 3, -1, 0, false, true);
        x.map(0, 20, 1, 3, -1, 0, false, false);
        Check.due("to load below what grows", x.load(0, 0, 8), 0);
        Check.due("to load below what does not", x.load(0, 0, 19), Pagewright.NOT_MAPPED);
    }

    private static void mapsFiles() {
        Check.promise(3, "`file`: 0 to 2, or NONE");
        for (int file = 0; file <= 2; file++) {
            Pagewright x = one();
            x.map(0, 0, 1, 3, file, 3, false, false);
            x.load(0, 0, 0);
            Check.due("the page of the file " + file, x.frame(0, 7), 10 * file + 3);
        }
        Pagewright x = one();
        x.map(0, 0, 1, 3, Pagewright.NONE, 3, false, false);
        x.load(0, 0, 0);
        Check.due("the page of nothing", x.frame(0, 0), 1);
        Check.promise(3, "`index`: 0 to 7: of the first one, up to 7 for the last one");
        Pagewright y = one();
        y.map(0, 10, 8, 3, 1, 0, false, false);
        y.map(0, 18, 1, 3, 1, 7, false, false);
        y.map(0, 19, 2, 3, 1, 6, false, false);
        int[][] indices = {{10, 0}, {17, 7}, {18, 7}, {19, 6}, {20, 7}};
        for (int[] at : indices) {
            y.load(0, 0, at[0]);
            Check.due("the index at " + at[0], y.frame(y.entry(0, at[0], 2), 7), 10 + at[1]);
        }
        Check.promise(3, "it does not matter for NONE");
        Pagewright z = one();
        int address = 0;
        for (int index : new int[] {-1, 8, 7, 0, LOW, HIGH}) {
            Check.due("map of nothing, index " + index, z.map(0, address, 2, 3, -1, index, address % 4 == 0, false), 1);
            address += 2;
        }
        for (int a = 0; a < 4; a++) {
            z.load(0, 0, a);
        }
        Check.due("join of what is mapped alike but for that", z.join(0, 0), 1);
        Check.promise(3, "`shared`: whether it is shared; it does not matter for NONE");
        Pagewright s = one();
        s.map(0, 0, 1, 3, 0, 0, true, false);
        s.map(0, 1, 1, 3, 0, 1, false, false);
        s.store(0, 0, 0, 7);
        s.store(0, 0, 1, 7);
        Check.due("the file's value of what is shared", s.read(0, 0), 7);
        Check.due("the file's value of what is private", s.read(0, 1), 0);
        s.map(0, 4, 1, 3, -1, 0, true, false);
        s.store(0, 0, 4, 7);
        s.fork(0);
        s.store(0, 1, 4, 8);
        Check.due("what is of nothing is not shared with a fork", s.load(0, 0, 4), 7);
    }

    private static void mapsRegions() {
        Check.promise(3, "Returns how many regions the space has then.");
        Pagewright x = one();
        for (int a = 0; a < 32; a++) {
            Check.due("one more, of other rights", x.map(0, a, 1, 1 + a % 2, -1, 0, false, false), a + 1);
        }
        Pagewright y = one();
        plain(y, 0, 0, 10);
        Check.due("one with a gap", plain(y, 0, 12, 10), 2);
        Check.due("what fills the gap", plain(y, 0, 10, 2), 1);
    }

    private static void mapsRefused() {
        Check.promise(3, "Throws `IndexOutOfBoundsException` if there is no such space");
        for (int space : NO_SPACES) {
            Check.noSpace("map of the space " + space, BUSY, x -> plain(x, space, 24, 1));
            Check.noSpace("map of no space and no addresses", BUSY, x -> x.map(space, -1, 0, 0, 3, 8, true, true));
        }
        Check.promise(3, "Throws `IllegalArgumentException` if from, count, rights, file or index is out of range");
        for (int from : NO_ADDRESSES) {
            Check.badArgument("map from " + from, BUSY, x -> plain(x, 0, from, 1));
        }
        for (int[] s : NO_STRETCHES) {
            Check.badArgument("map from " + s[0] + " of " + s[1], BUSY, x -> plain(x, 0, s[0], s[1]));
            Check.badArgument("map of a dead one", BUSY, x -> plain(x, 1, s[0], s[1]));
        }
        for (int rights : NO_RIGHTS) {
            Check.badArgument("rights " + rights, BUSY, x -> x.map(0, 24, 1, rights, -1, 0, false, false));
            Check.badArgument("rights for a dead one", BUSY, x -> x.map(1, 24, 1, rights, -1, 0, false, false));
        }
        for (int file : new int[] {-2, 3, LOW, HIGH}) {
            Check.badArgument("file " + file, BUSY, x -> x.map(0, 24, 1, 3, file, 0, false, false));
            Check.badArgument("file for what is mapped", BUSY, x -> x.map(0, 0, 1, 3, file, 0, false, false));
        }
        int[][] indices = {{-1, 1}, {8, 1}, {7, 2}, {6, 3}, {1, 8}, {0, 9}, {LOW, 1}, {HIGH, 1}, {HIGH, 2}, {-1, 8}};
        for (int[] i : indices) {
            Check.badArgument("index " + i[0] + " of " + i[1], BUSY,
                    x -> x.map(0, 20, i[1], 3, 2, i[0], false, false));
            Check.badArgument("index for what is mapped", BUSY, x -> x.map(0, 0, i[1], 3, 0, i[0], false, false));
        }
        Check.promise(3, "Throws `IllegalStateException` if the space is dead, or one of these addresses is mapped");
        Check.badState("map of a dead one", BUSY, x -> plain(x, 1, 24, 1));
        Check.badState("the only one is mapped", BUSY, x -> plain(x, 0, 0, 1));
        Check.badState("the last one is mapped", BUSY, x -> plain(x, 0, 8, 9));
        Check.badState("the first one is mapped", BUSY, x -> plain(x, 0, 19, 13));
        Check.badState("one in the middle is mapped", BUSY, x -> x.map(2, 4, 20, 1, -1, 0, false, false));
        Check.badState("an index is right, and the first one is mapped", BUSY,
                x -> x.map(0, 19, 8, 3, 0, 0, false, false));
        Check.due("between what is mapped", plain(Check.busy(), 0, 7, 9), 2);
    }

    private static void unmaps() {
        Check.promise(4, "`space`: a space");
        Pagewright x = six();
        plain(x, 0, 4, 1);
        plain(x, 5, 4, 2);
        Check.due("unmap of the space 5", x.unmap(5, 0, 32), 2);
        Check.due("unmap of the space 0", x.unmap(0, 0, 32), 1);
        Check.promise(4, "`from`: 0 to 31");
        Pagewright y = one();
        plain(y, 0, 0, 32);
        Check.due("unmap from 0", y.unmap(0, 0, 1), 1);
        Check.due("unmap from 31", y.unmap(0, 31, 1), 1);
        Check.due("rights of 0", y.entry(0, 0, 0), 0);
        Check.due("rights of 31", y.entry(0, 31, 0), 0);
        Check.due("how many are mapped", mapped(y, 0), 30);
        Check.promise(4, "`count`: 1 to 32: as many, up to 31");
        Check.due("unmap of 1", y.unmap(0, 9, 1), 1);
        Check.due("how many are mapped", mapped(y, 0), 29);
        Check.due("unmap of 2 up to 31", y.unmap(0, 30, 2), 1);
        Check.due("how many are mapped", mapped(y, 0), 28);
        Check.due("unmap of 32", y.unmap(0, 0, 32), 28);
        Check.due("how many are mapped", mapped(y, 0), 0);
        Check.promise(4, "Unmaps addresses, those that are mapped.");
        Pagewright z = one();
        plain(z, 0, 3, 2);
        plain(z, 0, 7, 1);
        z.unmap(0, 4, 3);
        Check.due("rights ahead of them", z.entry(0, 3, 0), 3);
        Check.due("rights of the one that was mapped", z.entry(0, 4, 0), 0);
        Check.due("rights behind them", z.entry(0, 7, 0), 3);
        Check.promise(4, "Returns how many were mapped.");
        Check.due("none of them", z.unmap(0, 8, 24), 0);
        Check.due("the first one", z.unmap(0, 7, 25), 1);
        Check.due("the last one", z.unmap(0, 0, 4), 1);
        Check.due("none at all", z.unmap(0, 0, 32), 0);
    }

    private static void unmapsRefused() {
        Check.promise(4, "Throws `IndexOutOfBoundsException` if there is no such space");
        for (int space : NO_SPACES) {
            Check.noSpace("unmap of the space " + space, BUSY, x -> x.unmap(space, 0, 1));
            Check.noSpace("unmap of no space and no addresses", BUSY, x -> x.unmap(space, -1, 0));
        }
        Check.promise(4, "Throws `IllegalArgumentException` if from or count is out of range");
        for (int from : NO_ADDRESSES) {
            Check.badArgument("unmap from " + from, BUSY, x -> x.unmap(0, from, 1));
        }
        for (int[] s : NO_STRETCHES) {
            Check.badArgument("unmap from " + s[0] + " of " + s[1], BUSY, x -> x.unmap(0, s[0], s[1]));
            Check.badArgument("unmap of a dead one", BUSY, x -> x.unmap(1, s[0], s[1]));
        }
        Check.promise(4, "Throws `IllegalStateException` if the space is dead");
        Check.badState("unmap of a dead one", BUSY, x -> x.unmap(1, 0, 1));
        Check.badState("unmap of all of a dead one", BUSY, x -> x.unmap(1, 0, 32));
    }

    private static void protects() {
        Check.promise(5, "`space`: a space");
        Pagewright x = six();
        plain(x, 0, 4, 1);
        plain(x, 5, 4, 2);
        Check.due("protect of the space 5", x.protect(5, 4, 1, 1), 2);
        Check.due("protect of the space 0", x.protect(0, 4, 1, 1), 1);
        Check.promise(5, "`from`: 0 to 31");
        Pagewright y = one();
        plain(y, 0, 0, 32);
        Check.due("protect from 0", y.protect(0, 0, 1, 1), 2);
        Check.due("protect from 31", y.protect(0, 31, 1, 2), 3);
        Check.due("rights of 0", y.entry(0, 0, 0), 1);
        Check.due("rights of 1", y.entry(0, 1, 0), 3);
        Check.due("rights of 30", y.entry(0, 30, 0), 3);
        Check.due("rights of 31", y.entry(0, 31, 0), 2);
        Check.promise(5, "`count`: 1 to 32: as many, up to 31");
        Check.due("protect of 1", y.protect(0, 9, 1, 1), 5);
        Check.due("protect of 2 up to 31", y.protect(0, 30, 2, 2), 5);
        Check.due("rights of 30", y.entry(0, 30, 0), 2);
        Check.due("rights of 29", y.entry(0, 29, 0), 3);
        Check.due("protect of 32", y.protect(0, 0, 32, 1), 1);
        Check.due("rights of 0", y.entry(0, 0, 0), 1);
        Check.due("rights of 31", y.entry(0, 31, 0), 1);
        Check.promise(5, "`rights`: 1 to 3");
        for (int rights = 1; rights <= 3; rights++) {
            y.protect(0, 12, 1, rights);
            Check.due("rights " + rights, y.entry(0, 12, 0), rights);
        }
        Check.promise(5, "Protects addresses, those that are mapped.");
        Pagewright z = one();
        plain(z, 0, 3, 1);
        plain(z, 0, 6, 2);
        Check.due("protect with gaps", z.protect(0, 2, 5, 1), 3);
        Check.due("rights of one that is not mapped", z.entry(0, 4, 0), 0);
        Check.due("the entry of one that is not mapped", z.entry(0, 4, 1), -1);
        Check.due("rights of the last one", z.entry(0, 6, 0), 1);
        Check.due("rights behind it", z.entry(0, 7, 0), 3);
        Check.promise(5, "Returns how many regions the space has then.");
        Check.due("when none is mapped", one().protect(0, 0, 32, 3), 0);
        Check.due("when none of these is mapped", z.protect(0, 20, 12, 2), 3);
        Check.due("when they are alike again", z.protect(0, 6, 2, 3), 2);
    }

    private static void protectsRefused() {
        Check.promise(5, "Throws `IndexOutOfBoundsException` if there is no such space");
        for (int space : NO_SPACES) {
            Check.noSpace("protect of the space " + space, BUSY, x -> x.protect(space, 0, 1, 1));
            Check.noSpace("protect of no space and no addresses", BUSY, x -> x.protect(space, 32, 33, 4));
        }
        Check.promise(5, "Throws `IllegalArgumentException` if from, count or rights is out of range");
        for (int from : NO_ADDRESSES) {
            Check.badArgument("protect from " + from, BUSY, x -> x.protect(0, from, 1, 1));
        }
        for (int[] s : NO_STRETCHES) {
            Check.badArgument("protect from " + s[0] + " of " + s[1], BUSY, x -> x.protect(0, s[0], s[1], 1));
            Check.badArgument("protect of a dead one", BUSY, x -> x.protect(1, s[0], s[1], 1));
        }
        for (int rights : NO_RIGHTS) {
            Check.badArgument("rights " + rights, BUSY, x -> x.protect(0, 0, 1, rights));
            Check.badArgument("rights for a dead one", BUSY, x -> x.protect(1, 0, 1, rights));
        }
        Check.promise(5, "Throws `IllegalStateException` if the space is dead");
        Check.badState("protect of a dead one", BUSY, x -> x.protect(1, 0, 1, 1));
        Check.badState("protect of all of a dead one", BUSY, x -> x.protect(1, 0, 32, 3));
    }

    private static void moves() {
        Check.promise(6, "`space`: a space");
        Pagewright x = six();
        plain(x, 0, 4, 1);
        plain(x, 5, 4, 2);
        Check.due("move of the space 5", x.move(5, 4, 1, 9), 2);
        Check.due("move of the space 0", x.move(0, 4, 1, 9), 1);
        Check.promise(6, "`from`: 0 to 31");
        Pagewright y = one();
        plain(y, 0, 0, 1);
        Check.due("move from 0", y.move(0, 0, 1, 31), 1);
        Check.due("rights of 0", y.entry(0, 0, 0), 0);
        Check.due("rights of 31", y.entry(0, 31, 0), 3);
        Check.due("move from 31", y.move(0, 31, 1, 0), 1);
        Check.due("rights of 31", y.entry(0, 31, 0), 0);
        Check.promise(6, "`to`: 0 to 31: where the first one comes, the last one up to 31");
        Check.due("rights of 0, to which one came", y.entry(0, 0, 0), 3);
        plain(y, 0, 1, 1);
        Check.due("move of 2 to 30", y.move(0, 0, 2, 30), 1);
        Check.due("rights of 31, to which the last one came", y.entry(0, 31, 0), 3);
        Check.due("rights of 30, to which the first one came", y.entry(0, 30, 0), 3);
        Check.promise(6, "`count`: 1 to 32: as many, up to 31");
        Check.due("move of 2 up to 31", y.move(0, 30, 2, 0), 1);
        Check.due("how many are mapped", mapped(y, 0), 2);
        Check.due("move of 1", y.move(0, 1, 1, 5), 2);
        Check.due("the other one stays", y.entry(0, 0, 0), 3);
        Pagewright z = one();
        plain(z, 0, 0, 16);
        Check.due("move of 16 to 16", z.move(0, 0, 16, 16), 1);
        Check.due("how many are mapped", mapped(z, 0), 16);
        Check.due("rights of 15", z.entry(0, 15, 0), 0);
        Check.due("rights of 16", z.entry(0, 16, 0), 3);
        Check.due("move of 16 back", z.move(0, 16, 16, 0), 1);
        Check.due("rights of 15", z.entry(0, 15, 0), 3);
        Check.promise(6, "Moves addresses.");
        z.store(0, 0, 15, 6);
        z.move(0, 15, 1, 20);
        Check.due("the value at 20", z.load(0, 0, 20), 6);
        Check.due("to load from 15", z.load(0, 0, 15), Pagewright.NOT_MAPPED);
        Check.promise(6, "Returns how many regions the space has then.");
        Check.due("one in two", z.move(0, 5, 1, 30), 4);
        Check.due("two in one", z.move(0, 30, 1, 5), 2);
        Check.due("just behind itself", z.move(0, 14, 1, 15), 3);
        Check.due("just ahead of itself", z.move(0, 15, 1, 14), 2);
    }

    private static void movesRefused() {
        Check.promise(6, "Throws `IndexOutOfBoundsException` if there is no such space");
        for (int space : NO_SPACES) {
            Check.noSpace("move of the space " + space, BUSY, x -> x.move(space, 0, 1, 31));
            Check.noSpace("move of no space and no addresses", BUSY, x -> x.move(space, -1, 0, 32));
        }
        Check.promise(6, "Throws `IllegalArgumentException` if from, count or to is out of range");
        for (int from : NO_ADDRESSES) {
            Check.badArgument("move from " + from, BUSY, x -> x.move(0, from, 1, 31));
            Check.badArgument("move to " + from, BUSY, x -> x.move(0, 0, 1, from));
            Check.badArgument("move of a dead one to " + from, BUSY, x -> x.move(1, 0, 1, from));
        }
        for (int[] s : NO_STRETCHES) {
            Check.badArgument("move from " + s[0] + " of " + s[1], BUSY, x -> x.move(0, s[0], s[1], 0));
            Check.badArgument("move of a dead one", BUSY, x -> x.move(1, s[0], s[1], 0));
        }
        int[][] ends = {{2, 31}, {3, 30}, {8, 25}, {16, 17}, {32, 1}};
        for (int[] e : ends) {
            Check.badArgument("move of " + e[0] + " to " + e[1], BUSY, x -> x.move(0, 0, e[0], e[1]));
        }
    }

    private static void movesOntoOthers() {
        Check.promise(6, "Throws `IllegalStateException` if the space is dead, one of these addresses is not mapped");
        Check.badState("move of a dead one", BUSY, x -> x.move(1, 0, 1, 31));
        Check.badState("the only one is not mapped", BUSY, x -> x.move(0, 8, 1, 31));
        Check.badState("the last one is not mapped", BUSY, x -> x.move(0, 0, 8, 20));
        Check.badState("the first one is not mapped", BUSY, x -> x.move(0, 15, 2, 30));
        Check.badState("one in the middle is not mapped", () -> {
            Pagewright x = Check.busy();
            x.unmap(0, 1, 1);
            return x;
        }, x -> x.move(0, 0, 3, 24));
        Check.promise(6, "or one of those to which they come is, be it one of these");
        Check.badState("the only one is mapped", BUSY, x -> x.move(0, 0, 1, 16));
        Check.badState("the first one is mapped", BUSY, x -> x.move(0, 0, 2, 19));
        Check.badState("the last one is mapped", BUSY, x -> x.move(0, 0, 2, 15));
        Check.badState("to where it is", BUSY, x -> x.move(0, 5, 1, 5));
        Check.badState("all to where they are", () -> Check.withSpace(1, 2), x -> x.move(0, 0, 32, 0));
        Check.badState("one up, onto one of these", BUSY, x -> x.move(0, 4, 3, 5));
        Check.badState("as many less one up, onto the last of these", BUSY, x -> x.move(0, 4, 3, 6));
        Check.badState("one down, onto one of these", BUSY, x -> x.move(0, 16, 3, 15));
        Check.badState("as many less one down, onto the first of these", BUSY, x -> x.move(0, 16, 3, 14));
        Check.due("as many up", Check.busy().move(0, 4, 3, 7), 3);
        Check.due("as many down", Check.busy().move(0, 16, 3, 13), 3);
    }

    private static void forks() {
        Check.promise(7, "`space`: a space");
        Pagewright x = new Pagewright();
        for (int i = 0; i < 5; i++) {
            x.space(0);
        }
        plain(x, 4, 9, 1);
        Check.promise(7, "Returns the number of the new one.");
        Check.due("fork as the sixth", x.fork(4), 5);
        Check.due("its regions", x.about(5, 1), 1);
        Check.due("the number of the second", one().fork(0), 1);
        Check.promise(7, "Forks a space.");
        Pagewright of = Check.withSpace(5, 6);
        of.fork(0);
        Check.due("whether it lives", of.about(1, 0), 1);
        Check.due("how many are mapped", mapped(of, 1), 32);
        Check.due("its entries", of.about(1, 2), 2);
        Check.due("the value of its second one", of.load(0, 1, 1), 6);
        Check.promise(7, "Throws `IndexOutOfBoundsException` if there is no such space");
        for (int space : NO_SPACES) {
            Check.noSpace("fork of the space " + space, BUSY, y -> y.fork(space));
        }
        Check.noSpace("fork of the space 6, as there are 6", SIX, y -> y.fork(6));
        Check.noSpace("fork of the space -1, as there are 6", SIX, y -> y.fork(-1));
        Check.promise(7, "Throws `IllegalStateException` if it is dead, or there are 6");
        Check.badState("fork of a dead one", BUSY, y -> y.fork(1));
        Check.badState("fork of the first one when there are 6", SIX, y -> y.fork(0));
        Check.badState("fork of the last one when there are 6", SIX, y -> y.fork(5));
        Check.badState("fork when there are 6, others dead", () -> {
            Pagewright y = six();
            y.end(1);
            y.end(5);
            return y;
        }, y -> y.fork(0));
    }

    private static void ends() {
        Check.promise(8, "`space`: a space");
        Pagewright x = six();
        Check.due("end of the space 5", x.end(5), 0);
        Check.due("end of the space 0", x.end(0), 0);
        Check.due("whether the space 5 lives", x.about(5, 0), 0);
        Check.due("whether the space 1 lives", x.about(1, 0), 1);
        Check.promise(8, "Returns how many of its entries were PRESENT or OUT.");
        Pagewright y = one();
        plain(y, 0, 0, 32);
        Check.due("with entries that are ABSENT", y.end(0), 0);
        Pagewright z = Check.withSpace(1, 2, 3);
        z.reclaim(2);
        Check.due("with one PRESENT and two OUT", z.end(0), 3);
        Pagewright full = Check.withSpace(new int[32]);
        Check.due("with all PRESENT or OUT", full.end(0), 32);
        Check.promise(8, "Ends a space, as if it was killed.");
        Pagewright w = Check.withSpace(1, 2, 3);
        w.reclaim(1);
        w.end(0);
        Check.due("whether it lives", w.about(0, 0), 0);
        Check.due("how many are mapped", mapped(w, 0), 0);
        Check.due("the store's use", w.count(8), 0);
        w.handle(0);
        Check.due("the first frame", w.frame(0, 0), 0);
        Check.due("spaces killed", w.count(7), 0);
        Check.promise(8, "Throws `IndexOutOfBoundsException` if there is no such space");
        for (int space : NO_SPACES) {
            Check.noSpace("end of the space " + space, BUSY, q -> q.end(space));
        }
        Check.promise(8, "Throws `IllegalStateException` if it is dead");
        Check.badState("end of a dead one", BUSY, q -> q.end(1));
    }

    private static void adjusts() {
        Check.promise(9, "`space`: a space");
        Pagewright x = six();
        Check.due("adjust of the space 5", x.adjust(5, 3), 0);
        Check.due("the score of the space 5", x.about(5, 5), 3);
        Check.due("the score of the space 0", x.about(0, 5), 0);
        Check.promise(9, "`by`: -50 to 50, 0 at first");
        Check.due("0 at first", x.adjust(0, -50), 0);
        Check.due("the score", x.about(0, 5), -50);
        Check.promise(9, "Returns by which it was adjusted before.");
        Check.due("behind -50", x.adjust(0, 50), -50);
        Check.due("behind 50", x.adjust(0, 0), 50);
        Check.due("behind 0", x.adjust(0, 1), 0);
        x.end(0);
        Check.due("of a dead one", x.adjust(0, 2), 1);
        Check.promise(9, "Adjusts the score of a space.");
        Pagewright y = Check.withSpace(1, 2);
        y.adjust(0, 5);
        Check.due("the score", y.about(0, 5), 7);
        y.adjust(0, -5);
        Check.due("the score, not from what it was", y.about(0, 5), -3);
        Check.promise(9, "Throws `IndexOutOfBoundsException` if there is no such space");
        for (int space : NO_SPACES) {
            Check.noSpace("adjust of the space " + space, BUSY, q -> q.adjust(space, 1));
            Check.noSpace("adjust of no space by 51", BUSY, q -> q.adjust(space, 51));
        }
        Check.promise(9, "Throws `IllegalArgumentException` if by is out of range");
        for (int by : new int[] {-51, 51, LOW, HIGH}) {
            Check.badArgument("adjust by " + by, BUSY, q -> q.adjust(0, by));
            Check.badArgument("adjust of a dead one by " + by, BUSY, q -> q.adjust(1, by));
        }
    }

    private static void limits() {
        Check.promise(10, "`group`: 0 to 2");
        for (int group = 0; group <= 2; group++) {
            Pagewright x = new Pagewright();
            x.space(group);
            plain(x, 0, 0, 2);
            x.limit(group, 1);
            x.load(0, 0, 0);
            x.load(0, 0, 1);
            Check.due("pages evicted by the limit of the group " + group, x.count(2), 1);
        }
        Check.promise(10, "`pages`: 1 to 24, or NONE");
        // With a limit of 24 a space of the group is killed; without one it is the space 0, whose score is greater.
        for (int pages : new int[] {24, -1}) {
            Pagewright x = fullWithLargeOnes();
            x.limit(1, pages);
            Check.due("to load with a limit of " + pages, x.load(0, 1, 24), pages == 24 ? -4 : 0);
            Check.due("whether the space 0 lives", x.about(0, 0), pages == 24 ? 1 : 0);
        }
        Pagewright y = one();
        plain(y, 0, 0, 3);
        y.limit(0, 1);
        y.limit(0, Pagewright.NONE);
        y.load(0, 0, 0);
        y.load(0, 0, 1);
        Check.due("pages evicted when the limit is taken back", y.count(2), 0);
        Check.promise(10, "Sets the limit of a group.");
        Check.due("limit below what there is", y.limit(0, 1), 2);
        Check.due("pages evicted by that", y.count(2), 0);
        y.load(0, 0, 2);
        Check.due("pages evicted for the next one", y.count(2), 2);
        Check.promise(10, "Throws `IllegalArgumentException` if group or pages is out of range");
        for (int group : new int[] {-1, 3, LOW, HIGH}) {
            Check.badArgument("limit of the group " + group, BUSY, q -> q.limit(group, 1));
            Check.badArgument("limit of the group " + group + " by NONE", BUSY, q -> q.limit(group, -1));
        }
        for (int pages : new int[] {0, 25, -2, LOW, HIGH}) {
            Check.badArgument("limit by " + pages, BUSY, q -> q.limit(0, pages));
        }
    }

    /** All places are taken by records of the space 0, and all frames by pages of the space 1 that have no room. */
    private static Pagewright fullWithLargeOnes() {
        Pagewright x = new Pagewright();
        x.space(0);
        x.space(1);
        plain(x, 0, 0, 32);
        plain(x, 1, 0, 32);
        for (int a = 0; a < 10; a++) {
            x.store(0, 0, a, 50000);
        }
        x.reclaim(10);
        for (int a = 0; a < 24; a++) {
            x.store(0, 1, a, 60000);
        }
        x.adjust(0, 50);
        return x;
    }

    private static void limitsCount() {
        Check.promise(10, "Returns how many pages belong to the group.");
        Check.due("of a group without any", new Pagewright().limit(2, 24), 0);
        Pagewright x = fullWithLargeOnes();
        Check.due("of a group that has all", x.limit(1, 24), 24);
        Check.due("of one that has records alone", x.limit(0, 1), 0);
        Pagewright y = Check.withSpace(1, 2);
        y.read(0, 0);
        Check.due("loose and cached ones", y.limit(0, -1), 3);
        y.reclaim(1);
        Check.due("behind an eviction", y.limit(0, -1), 2);
    }
}
