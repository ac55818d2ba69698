import java.util.ArrayDeque;
import java.util.ArrayList;
import java.util.Collections;
import java.util.LinkedHashMap;
import java.util.LinkedHashSet;
import java.util.LinkedList;
import java.util.List;
import java.util.Map;
import java.util.Set;
import java.util.TreeMap;
import java.util.TreeSet;

/**
 * The document once more, written apart from the class and otherwise: with sets and maps, pages that are found gone
 * by looking who has them, and calls that say KILLED and FULL by an exception of its own. Arguments are in range here.
 */
final class Model {
    static final int NONE = -1;

    static final class Page {
        int frame;
        int value;
        int group;
        boolean cached;
        int file;
        int index;
        boolean dirty;
        boolean merged;
        boolean seen;
    }

    static final class Rec {
        int value;

        int size() {
            return value < 100 ? 1 : value < 10000 ? 2 : 99;
        }
    }

    static final class Addr {
        int rights;
        int file;
        int index;
        boolean shared;
        boolean grows;
        Page page;
        Rec rec;
        boolean writable;

        boolean alike(Addr o, int apart) {
            if (rights != o.rights || file != o.file || grows != o.grows) {
                return false;
            }
            return file == NONE || shared == o.shared && o.index == index + apart;
        }
    }

    static final class Space {
        int group;
        int adjusted;
        boolean lives = true;
        boolean merging;
        final TreeMap<Integer, Addr> map = new TreeMap<>();
        final Set<Integer> blocks = new TreeSet<>();
    }

    static final class Stop extends RuntimeException {
        private static final long serialVersionUID = 1L;
        final int told;

        Stop(int told) {
            super(null, null, false, false);
            this.told = told;
        }
    }

    static final class Tr {
        final int frame;
        final boolean may;

        Tr(int frame, boolean may) {
            this.frame = frame;
            this.may = may;
        }
    }

    final List<Space> spaces = new ArrayList<>();
    final Page[] frames = new Page[24];
    final List<LinkedList<Page>> lists = List.of(new LinkedList<>(), new LinkedList<>());
    final List<LinkedHashMap<Integer, Tr>> caches = List.of(new LinkedHashMap<>(), new LinkedHashMap<>());
    final List<Set<Integer>> messages = List.of(new TreeSet<>(), new TreeSet<>());
    final ArrayDeque<Rec> store = new ArrayDeque<>();
    final Rec[] places = new Rec[10];
    final int[][] disk = new int[3][8];
    final ArrayList<Integer> evictions = new ArrayList<>();
    final int[] limits = {NONE, NONE, NONE};
    final int[] counts = new int[8];
    final LinkedHashSet<Integer> lookedAt = new LinkedHashSet<>();
    int cursor;

    // ---- spaces, maps

    int space(int group) {
        if (spaces.size() == 6) {
            throw new IllegalStateException();
        }
        Space s = new Space();
        s.group = group;
        spaces.add(s);
        return spaces.size() - 1;
    }

    private Space living(int space) {
        Space s = spaces.get(space);
        if (!s.lives) {
            throw new IllegalStateException();
        }
        return s;
    }

    int map(int space, int from, int count, int rights, int file, int index, boolean shared, boolean grows) {
        Space s = living(space);
        for (int a = from; a < from + count; a++) {
            if (s.map.containsKey(a)) {
                throw new IllegalStateException();
            }
        }
        for (int a = from; a < from + count; a++) {
            Addr d = new Addr();
            d.rights = rights;
            d.file = file;
            d.index = index + a - from;
            d.shared = shared;
            d.grows = grows;
            s.map.put(a, d);
        }
        return regions(s);
    }

    private static int regions(Space s) {
        int n = 0;
        for (Map.Entry<Integer, Addr> e : s.map.entrySet()) {
            Addr below = s.map.get(e.getKey() - 1);
            if (below == null || !below.alike(e.getValue(), 1)) {
                n++;
            }
        }
        return n;
    }

    int unmap(int space, int from, int count) {
        Space s = living(space);
        int n = 0;
        for (int a = from; a < from + count; a++) {
            if (s.map.containsKey(a)) {
                n++;
                drop(space, a);
            }
        }
        return n;
    }

    private void drop(int space, int a) {
        Space s = spaces.get(space);
        Addr d = s.map.get(a);
        if (d.page != null) {
            inform(space, a);
        }
        s.blocks.remove(a / 4);
        s.map.remove(a);
        lookedAt.remove(space * 32 + a);
        sweep();
    }

    int protect(int space, int from, int count, int rights) {
        Space s = living(space);
        for (int a = from; a < from + count; a++) {
            Addr d = s.map.get(a);
            if (d != null) {
                d.rights = rights;
                lock(space, a);
                s.blocks.remove(a / 4);
            }
        }
        return regions(s);
    }

    private void lock(int space, int a) {
        Addr d = spaces.get(space).map.get(a);
        if (d.page != null && d.writable) {
            inform(space, a);
        }
        d.writable = false;
    }

    int move(int space, int from, int count, int to) {
        Space s = living(space);
        for (int i = 0; i < count; i++) {
            if (!s.map.containsKey(from + i) || s.map.containsKey(to + i)) {
                throw new IllegalStateException();
            }
        }
        for (int i = 0; i < count; i++) {
            if (s.map.get(from + i).page != null) {
                inform(space, from + i);
            }
            s.blocks.remove((from + i) / 4);
            s.map.put(to + i, s.map.remove(from + i));
            lookedAt.remove(space * 32 + from + i);
            lookedAt.remove(space * 32 + to + i);
        }
        return regions(s);
    }

    int fork(int space) {
        Space s = living(space);
        int child = space(s.group);
        Space c = spaces.get(child);
        c.merging = s.merging;
        for (Map.Entry<Integer, Addr> e : s.map.entrySet()) {
            lock(space, e.getKey());
            Addr d = e.getValue();
            Addr n = new Addr();
            n.rights = d.rights;
            n.file = d.file;
            n.index = d.index;
            n.shared = d.shared;
            n.grows = d.grows;
            n.page = d.page;
            n.rec = d.rec;
            c.map.put(e.getKey(), n);
        }
        s.blocks.clear();
        return child;
    }

    int end(int space) {
        Space s = living(space);
        int n = has(s, true) + has(s, false);
        bury(space);
        return n;
    }

    private void bury(int space) {
        for (Integer a : new ArrayList<>(spaces.get(space).map.keySet())) {
            drop(space, a);
        }
        spaces.get(space).lives = false;
    }

    private static int has(Space s, boolean page) {
        int n = 0;
        for (Addr d : s.map.values()) {
            n += (page ? d.page != null : d.rec != null) ? 1 : 0;
        }
        return n;
    }

    int adjust(int space, int by) {
        int old = spaces.get(space).adjusted;
        spaces.get(space).adjusted = by;
        return old;
    }

    int limit(int group, int pages) {
        limits[group] = pages;
        return those(group).size();
    }

    // ---- what is had by whom

    private void inform(int space, int a) {
        for (int p = 0; p < 2; p++) {
            if (caches.get(p).containsKey(space * 32 + a)) {
                messages.get(p).add(space * 32 + a);
            }
        }
    }

    private int holders(Page page) {
        int n = 0;
        for (Space s : spaces) {
            for (Addr d : s.map.values()) {
                n += d.page == page ? 1 : 0;
            }
        }
        return n;
    }

    private boolean isHeld(Rec rec) {
        for (Space s : spaces) {
            for (Addr d : s.map.values()) {
                if (d.rec == rec) {
                    return true;
                }
            }
        }
        return false;
    }

    /** Loose pages and records that no entry has are gone. */
    private void sweep() {
        for (int f = 0; f < 24; f++) {
            if (frames[f] != null && !frames[f].cached && holders(frames[f]) == 0) {
                goes(frames[f]);
            }
        }
        for (int i = 0; i < 10; i++) {
            if (places[i] != null && !isHeld(places[i])) {
                places[i] = null;
            }
        }
        store.removeIf(rec -> !isHeld(rec));
    }

    private void goes(Page page) {
        frames[page.frame] = null;
        lists.get(0).remove(page);
        lists.get(1).remove(page);
    }

    private boolean isTranslated(int frame) {
        for (LinkedHashMap<Integer, Tr> cache : caches) {
            for (Tr t : cache.values()) {
                if (t.frame == frame) {
                    return true;
                }
            }
        }
        return false;
    }

    private List<Page> those(int group) {
        List<Page> found = new ArrayList<>();
        for (Page page : frames) {
            if (page != null && (group == NONE || page.group == group)) {
                found.add(page);
            }
        }
        return found;
    }

    private List<Page> those(int list, int group) {
        List<Page> found = new ArrayList<>(lists.get(list));
        found.removeIf(page -> group != NONE && page.group != group);
        return found;
    }

    // ---- accesses

    int access(int processor, int space, int a, int value) {
        Space s = living(space);
        handle(processor);
        Addr d = s.map.get(a);
        if (d == null) {
            Addr above = s.map.get(a + 1);
            boolean grows = above != null && above.grows && !s.map.containsKey(a - 1);
            if (!grows || above.file != NONE && above.index == 0) {
                return -2;
            }
            map(space, a, 1, above.rights, above.file, above.index - 1, above.shared, true);
            d = s.map.get(a);
        }
        boolean stores = value >= 0;
        if ((d.rights & (stores ? 2 : 1)) == 0) {
            return -3;
        }
        int key = space * 32 + a;
        Tr t = caches.get(processor).get(key);
        if (t != null && (t.may || !stores)) {
            counts[0]++;
        } else {
            counts[1]++;
            try {
                fault(space, a, stores);
            } catch (Stop stop) {
                return stop.told;
            }
            LinkedHashMap<Integer, Tr> cache = caches.get(processor);
            messages.get(processor).remove(key);
            cache.put(key, new Tr(d.page.frame, d.writable));
            if (cache.size() > 4) {
                Integer first = cache.keySet().iterator().next();
                cache.remove(first);
                messages.get(processor).remove(first);
            }
        }
        return use(d.page, value);
    }

    private static int use(Page page, int value) {
        int old = page.value;
        page.seen = true;
        if (value >= 0) {
            page.value = value;
            page.dirty = page.cached;
        }
        return old;
    }

    private void fault(int space, int a, boolean stores) {
        Addr d = spaces.get(space).map.get(a);
        if (d.page == null && d.rec == null && d.file == NONE) {
            fresh(space, a, 0, stores);
        } else if (d.rec != null) {
            fresh(space, a, d.rec.value, stores);
        } else if (d.page == null) {
            Page cached = cached(d.file, d.index, spaces.get(space).group, space);
            if (stores && !d.shared) {
                fresh(space, a, cached.value, true);
                counts[6]++;
            } else {
                d.page = cached;
                d.writable = stores;
            }
        } else if (stores && !d.writable) {
            if (!d.page.cached && holders(d.page) == 1) {
                d.writable = true;
                d.page.merged = false;
            } else if (d.page.cached && d.shared) {
                d.writable = true;
            } else {
                fresh(space, a, d.page.value, true);
                counts[6]++;
            }
        }
    }

    private void fresh(int space, int a, int value, boolean writable) {
        Page page = new Page();
        page.value = value;
        page.group = spaces.get(space).group;
        page.frame = seek(page.group, space);
        frames[page.frame] = page;
        lists.get(0).add(page);
        put(space, a, page, writable);
    }

    private void put(int space, int a, Page page, boolean writable) {
        Addr d = spaces.get(space).map.get(a);
        if (d.page != null) {
            inform(space, a);
        }
        spaces.get(space).blocks.remove(a / 4);
        d.page = page;
        d.rec = null;
        d.writable = writable;
        sweep();
    }

    private Page cached(int file, int index, int group, int space) {
        for (Page page : frames) {
            if (page != null && page.cached && page.file == file && page.index == index) {
                return page;
            }
        }
        Page page = new Page();
        page.group = group;
        page.frame = seek(group, space);
        page.cached = true;
        page.file = file;
        page.index = index;
        page.value = disk[file][index];
        counts[4]++;
        int last = evictions.lastIndexOf(file * 8 + index);
        boolean refault = last >= 0 && evictions.size() - 1 - last <= lists.get(1).size();
        counts[3] += refault ? 1 : 0;
        frames[page.frame] = page;
        lists.get(refault ? 1 : 0).add(page);
        return page;
    }

    int file(int file, int index, int value) {
        try {
            return use(cached(file, index, 0, NONE), value);
        } catch (Stop stop) {
            return stop.told;
        }
    }

    int sync(int file) {
        int n = 0;
        for (Page page : those(NONE)) {
            if (page.cached && page.file == file && page.dirty) {
                n++;
                clean(page);
                for (int s = 0; s < spaces.size(); s++) {
                    for (Map.Entry<Integer, Addr> e : spaces.get(s).map.entrySet()) {
                        if (e.getValue().page == page) {
                            lock(s, e.getKey());
                        }
                    }
                }
            }
        }
        return n;
    }

    private void clean(Page page) {
        disk[page.file][page.index] = page.value;
        page.dirty = false;
        counts[5]++;
    }

    // ---- frames

    private int seek(int group, int needing) {
        while (limits[group] != NONE && those(group).size() >= limits[group]) {
            if (!evict(group)) {
                int victim = kill(group);
                if (victim == needing && victim != NONE) {
                    throw new Stop(-4);
                }
                if (victim == NONE) {
                    break;
                }
            }
        }
        while (true) {
            boolean lingers = false;
            for (int f = 0; f < 24; f++) {
                if (frames[f] == null && !isTranslated(f)) {
                    return f;
                }
                lingers |= frames[f] == null;
            }
            if (lingers) {
                handle(0);
                handle(1);
            } else if (!evict(NONE)) {
                int victim = kill(NONE);
                if (victim == NONE) {
                    throw new Stop(-5);
                }
                if (victim == needing) {
                    throw new Stop(-4);
                }
            }
        }
    }

    private int kill(int group) {
        int best = NONE;
        for (int s = spaces.size() - 1; s >= 0; s--) {
            Space space = spaces.get(s);
            if (space.lives && (group == NONE || space.group == group) && (best == NONE || score(s) >= score(best))) {
                best = s;
            }
        }
        if (best != NONE) {
            bury(best);
            counts[7]++;
        }
        return best;
    }

    int score(int space) {
        Space s = spaces.get(space);
        return has(s, true) + has(s, false) + s.adjusted;
    }

    private boolean evict(int group) {
        int tries = those(group).size() * 2;
        while (tries-- > 0) {
            while (those(0, group).size() < those(1, group).size()) {
                Page page = those(1, group).get(0);
                lists.get(1).remove(page);
                lists.get(0).add(page);
                page.seen = false;
            }
            Page page = those(0, group).get(0);
            boolean second = page.seen;
            if (!second && goesOut(page)) {
                return true;
            }
            lists.get(0).remove(page);
            lists.get(1).add(page);
            page.seen = false;
        }
        return false;
    }

    private boolean goesOut(Page page) {
        Rec rec = null;
        if (page.cached) {
            if (page.dirty) {
                clean(page);
            }
        } else {
            rec = new Rec();
            rec.value = page.value;
            if (!keep(rec)) {
                return false;
            }
        }
        for (int s = 0; s < spaces.size(); s++) {
            for (Map.Entry<Integer, Addr> e : spaces.get(s).map.entrySet()) {
                Addr d = e.getValue();
                if (d.page == page) {
                    inform(s, e.getKey());
                    spaces.get(s).blocks.remove(e.getKey() / 4);
                    d.page = null;
                    d.writable = false;
                    d.rec = rec;
                }
            }
        }
        evictions.add(page.cached ? page.file * 8 + page.index : NONE);
        counts[2]++;
        goes(page);
        return true;
    }

    private int used() {
        int used = 0;
        for (Rec rec : store) {
            used += rec.size();
        }
        return used;
    }

    private int free() {
        for (int i = 0; i < 10; i++) {
            if (places[i] == null) {
                return i;
            }
        }
        return NONE;
    }

    private boolean keep(Rec rec) {
        if (rec.value < 10000) {
            while (used() + rec.size() > 8 && !store.isEmpty() && free() != NONE) {
                places[free()] = store.removeFirst();
            }
            if (used() + rec.size() <= 8) {
                store.addLast(rec);
                return true;
            }
        }
        if (free() == NONE) {
            return false;
        }
        places[free()] = rec;
        return true;
    }

    int reclaim(int pages) {
        for (int i = 0; i < pages; i++) {
            if (!evict(NONE)) {
                return i;
            }
        }
        return pages;
    }

    int handle(int processor) {
        int n = messages.get(processor).size();
        caches.get(processor).keySet().removeAll(messages.get(processor));
        messages.get(processor).clear();
        return n;
    }

    // ---- blocks, merging

    int join(int space, int address) {
        Space s = spaces.get(space);
        Addr first = s.map.get(address);
        boolean can = !s.blocks.contains(address / 4);
        for (int a = address; a < address + 4; a++) {
            Addr d = s.map.get(a);
            can = can && d != null && d.file == NONE && d.page != null && !d.page.cached;
            can = can && holders(d.page) == 1 && !d.page.merged && d.alike(first, 0);
        }
        if (!can) {
            throw new IllegalStateException();
        }
        s.blocks.add(address / 4);
        return s.blocks.size();
    }

    void merge(int space, boolean is) {
        spaces.get(space).merging = is;
    }

    int scan(int addresses) {
        boolean some = false;
        for (Space s : spaces) {
            some |= s.lives && s.merging;
        }
        int n = 0;
        while (some && addresses > 0) {
            int space = cursor / 32;
            if (space < spaces.size() && spaces.get(space).lives && spaces.get(space).merging) {
                addresses--;
                n += look(space, cursor % 32);
            }
            cursor++;
            if (cursor == 192) {
                cursor = 0;
                lookedAt.clear();
            }
        }
        return n;
    }

    private static boolean isOpen(Addr d) {
        return d != null && d.page != null && !d.page.cached && !d.page.merged;
    }

    private int look(int space, int a) {
        Addr d = spaces.get(space).map.get(a);
        if (!isOpen(d)) {
            return 0;
        }
        for (Page page : frames) {
            if (page != null && !page.cached && page.merged && page.value == d.page.value) {
                put(space, a, page, false);
                return 1;
            }
        }
        for (int key : lookedAt) {
            Addr other = spaces.get(key / 32).map.get(key % 32);
            if (isOpen(other) && other.page != d.page && other.page.value == d.page.value) {
                other.page.merged = true;
                lock(key / 32, key % 32);
                spaces.get(key / 32).blocks.remove(key % 32 / 4);
                put(space, a, other.page, false);
                return 1;
            }
        }
        lookedAt.add(space * 32 + a);
        return 0;
    }

    // ---- asking

    /** The same answers in the same order as Check.state has of an object. */
    int[] state() {
        List<Integer> all = new ArrayList<>();
        for (int count : counts) {
            all.add(count);
        }
        int taken = 0;
        for (Rec rec : places) {
            taken += rec != null ? 1 : 0;
        }
        all.addAll(List.of(used(), taken, messages.get(0).size() + messages.get(1).size()));
        for (LinkedList<Page> list : lists) {
            for (int place = 0; place <= 24; place++) {
                all.add(place < list.size() ? list.get(place).frame : NONE);
            }
        }
        for (int f = 0; f < 24; f++) {
            all.addAll(frame(f));
        }
        for (int[] file : disk) {
            for (int value : file) {
                all.add(value);
            }
        }
        for (int n = 0; n < 6; n++) {
            boolean is = n < spaces.size();
            all.addAll(is ? about(n) : Collections.nCopies(6, Check.NO_SPACE));
            for (int a = 0; a < 32; a++) {
                all.addAll(is ? address(spaces.get(n), a) : Collections.nCopies(6, Check.NO_SPACE));
            }
        }
        return all.stream().mapToInt(Integer::intValue).toArray();
    }

    private List<Integer> about(int n) {
        Space space = spaces.get(n);
        return List.of(space.lives ? 1 : 0, regions(space), has(space, true), has(space, false), space.blocks.size(),
                score(n));
    }

    private List<Integer> frame(int f) {
        Page p = frames[f];
        if (p == null) {
            return List.of(isTranslated(f) ? 3 : 0, NONE, NONE, NONE, NONE, NONE, NONE, NONE);
        }
        return List.of(p.cached ? 2 : 1, p.value, lists.get(1).contains(p) ? 1 : 0, p.seen ? 1 : 0, holders(p), p.group,
                p.merged || p.dirty ? 1 : 0, p.cached ? p.file * 10 + p.index : NONE);
    }

    private List<Integer> address(Space space, int a) {
        Addr d = space.map.get(a);
        if (d == null) {
            return List.of(0, NONE, NONE, NONE, NONE, 0);
        }
        int place = d.rec == null ? NONE : 10;
        for (int i = 0; i < 10; i++) {
            place = d.rec != null && places[i] == d.rec ? i : place;
        }
        return List.of(d.rights, d.page != null ? 1 : d.rec != null ? 2 : 0, d.page == null ? NONE : d.page.frame,
                d.page == null ? NONE : d.writable ? 1 : 0, place, space.blocks.contains(a / 4) ? 1 : 0);
    }
}
