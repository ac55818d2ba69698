/** Virtual memory in one object: its document is ../shared/DOC.md, whose words the names here follow. */
public final class Pagewright {
    public static final int NONE = -1;
    public static final int NOT_MAPPED = -2, NO_RIGHT = -3, KILLED = -4, FULL = -5;
    public static final int ABSENT = 0, PRESENT = 1, OUT = 2;
    public static final int IDLE = 0, ACTIVE = 1;

    private static final int FRAMES = 24, SPACES = 6, ADDRESSES = 32, BLOCK = 4, GROUPS = 3;
    private static final int FILES = 3, INDICES = 8, PROCESSORS = 2, TOP_VALUE = 99999, TOP_ADJUST = 50;
    private static final int TO_LOAD = 1, TO_STORE = 2, BOTH = 3;
    private static final int NOTHING = 0, LOOSE = 1, CACHED = 2, LINGERS = 3;
    private static final int HITS = 0, MISSES = 1, EVICTED = 2, REFAULTS = 3;
    private static final int DISK_READS = 4, DISK_WRITES = 5, COPIES = 6, KILLS = 7, COUNTED = 8;

    /** Stands far above the turns that a loop with it needs, each of which evicts, kills, frees frames or goes on. */
    private static final int ENOUGH = 100000;

    private final Space[] spaces = new Space[SPACES];
    private final Page[] pages = new Page[FRAMES];
    private final Cache[] caches = new Cache[PROCESSORS];
    private final Records records = new Records();
    private final int[] onDisk = new int[FILES * INDICES];
    private final int[] evictedAs = new int[FILES * INDICES];
    private final boolean[] joined = new boolean[SPACES * ADDRESSES / BLOCK];
    private final int[] limits = new int[GROUPS];
    private final int[] counts = new int[COUNTED];
    /** Grows with each page that comes to the end of a list, so that the lists are told by it. */
    private int lastTurn;
    private int made;
    private int scanSpace;
    private int scanAddress;

    public Pagewright() {
        for (int i = 0; i < SPACES; i++) {
            spaces[i] = new Space(i);
        }
        for (int i = 0; i < FRAMES; i++) {
            pages[i] = new Page(i);
        }
        for (int i = 0; i < PROCESSORS; i++) {
            caches[i] = new Cache(1 << i);
        }
        for (int i = 0; i < FILES * INDICES; i++) {
            evictedAs[i] = NONE;
        }
        for (int i = 0; i < GROUPS; i++) {
            limits[i] = NONE;
        }
    }

    // ---- spaces, maps

    public int space(int group) throws IllegalArgumentException, IllegalStateException {
        demand(within(group, 0, GROUPS - 1));
        permit(made < SPACES);
        return begin(group).number;
    }

    public int map(int space, int from, int count, int rights, int file, int index, boolean shared, boolean grows)
            throws IndexOutOfBoundsException, IllegalArgumentException, IllegalStateException {
        Space in = known(space);
        demand(isStretch(from, count) && within(rights, TO_LOAD, BOTH) && within(file, NONE, FILES - 1));
        demand(file == NONE || within(index, 0, INDICES - count));
        permit(in.living && in.mapped(from, count) == 0);
        for (int i = 0; i < count; i++) {
            in.entries[from + i].establish(rights, file, index + i, shared, grows);
        }
        return in.regions();
    }

    public int unmap(int space, int from, int count)
            throws IndexOutOfBoundsException, IllegalArgumentException, IllegalStateException {
        Space in = known(space);
        demand(isStretch(from, count));
        permit(in.living);
        int mapped = in.mapped(from, count);
        for (int i = from; i < from + count; i++) {
            remove(in.entries[i]);
        }
        return mapped;
    }

    public int protect(int space, int from, int count, int rights)
            throws IndexOutOfBoundsException, IllegalArgumentException, IllegalStateException {
        Space in = known(space);
        demand(isStretch(from, count) && within(rights, TO_LOAD, BOTH));
        permit(in.living);
        for (int i = from; i < from + count; i++) {
            Entry entry = in.entries[i];
            if (entry.mapped) {
                entry.rights = rights;
                entry.forbidStores();
                setJoined(entry.block, false);
            }
        }
        return in.regions();
    }

    public int move(int space, int from, int count, int to)
            throws IndexOutOfBoundsException, IllegalArgumentException, IllegalStateException {
        Space in = known(space);
        demand(isStretch(from, count) && isStretch(to, count));
        permit(in.living && in.mapped(from, count) == count && in.mapped(to, count) == 0);
        for (int i = 0; i < count; i++) {
            Entry old = in.entries[from + i];
            old.tellProcessors();
            setJoined(old.block, false);
            in.entries[to + i].takeOver(old);
        }
        return in.regions();
    }

    public int fork(int space) throws IndexOutOfBoundsException, IllegalStateException {
        Space parent = known(space);
        permit(parent.living && made < SPACES);
        Space child = begin(parent.group);
        child.merging = parent.merging;
        for (int i = 0; i < ADDRESSES; i++) {
            Entry entry = parent.entries[i];
            entry.forbidStores();
            setJoined(entry.block, false);
            child.entries[i].resemble(entry);
        }
        return child.number;
    }

    public int end(int space) throws IndexOutOfBoundsException, IllegalStateException {
        Space in = known(space);
        permit(in.living);
        int had = in.having(PRESENT) + in.having(OUT);
        bury(in);
        return had;
    }

    public int adjust(int space, int by) throws IndexOutOfBoundsException, IllegalArgumentException {
        Space in = known(space);
        demand(within(by, -TOP_ADJUST, TOP_ADJUST));
        int before = in.adjusted;
        in.adjusted = by;
        return before;
    }

    public int limit(int group, int pages) throws IllegalArgumentException {
        demand(within(group, 0, GROUPS - 1) && (pages == NONE || within(pages, 1, FRAMES)));
        limits[group] = pages;
        return pagesOf(group);
    }

    // ---- accesses, files

    public int load(int processor, int space, int address)
            throws IndexOutOfBoundsException, IllegalArgumentException, IllegalStateException {
        Cache cache = cacheOf(processor);
        Space in = known(space);
        demand(within(address, 0, ADDRESSES - 1));
        permit(in.living);
        return access(cache, in, address, NONE);
    }

    public int store(int processor, int space, int address, int value)
            throws IndexOutOfBoundsException, IllegalArgumentException, IllegalStateException {
        Cache cache = cacheOf(processor);
        Space in = known(space);
        demand(within(address, 0, ADDRESSES - 1) && within(value, 0, TOP_VALUE));
        permit(in.living);
        return access(cache, in, address, value);
    }

    public int read(int file, int index) throws IllegalArgumentException {
        demand(isInFile(file, index));
        return accessFile(file, index, NONE);
    }

    public int write(int file, int index, int value) throws IllegalArgumentException {
        demand(isInFile(file, index) && within(value, 0, TOP_VALUE));
        return accessFile(file, index, value);
    }

    public int sync(int file) throws IllegalArgumentException {
        demand(within(file, 0, FILES - 1));
        int dirty = 0;
        for (Page page : pages) {
            if (page.kind == CACHED && page.file == file && page.dirty) {
                dirty++;
                writeBack(page);
                forbidStoresInto(page);
            }
        }
        return dirty;
    }

    public int disk(int file, int index) throws IllegalArgumentException {
        demand(isInFile(file, index));
        return onDisk[file * INDICES + index];
    }

    // ---- reclaiming, blocks, merging

    public int reclaim(int pages) throws IllegalArgumentException {
        demand(within(pages, 1, FRAMES));
        int evicted = 0;
        while (evicted < pages && evictOne(NONE)) {
            evicted++;
        }
        return evicted;
    }

    public int handle(int processor) throws IndexOutOfBoundsException {
        return cacheOf(processor).obey();
    }

    public int join(int space, int address)
            throws IndexOutOfBoundsException, IllegalArgumentException, IllegalStateException {
        Space in = known(space);
        demand(within(address, 0, ADDRESSES - BLOCK) && address % BLOCK == 0);
        int block = in.entries[address].block;
        permit(!isJoined(block) && canBeBlock(in, address));
        setJoined(block, true);
        return blocks(in);
    }

    public void merge(int space, boolean is) throws IndexOutOfBoundsException {
        known(space).merging = is;
    }

    public int scan(int addresses) throws IllegalArgumentException {
        demand(within(addresses, 1, SPACES * ADDRESSES));
        int changed = 0;
        int gone = 0;
        boolean some = isSomeToMerge();
        for (int turn = 0; some && gone < addresses && turn < ENOUGH; turn++) {
            if (scanSpace < SPACES && scanAddress < ADDRESSES && spaces[scanSpace].isScanned()) {
                changed += look(spaces[scanSpace].entries[scanAddress]) ? 1 : 0;
                gone++;
                scanAddress++;
            } else {
                scanAddress = ADDRESSES;
            }
            if (scanAddress >= ADDRESSES) {
                passToNextSpace();
            }
        }
        return changed;
    }

    // ---- asking

    public int entry(int space, int address, int what) throws IndexOutOfBoundsException, IllegalArgumentException {
        Space in = known(space);
        demand(within(address, 0, ADDRESSES - 1) && within(what, 0, 5));
        Entry entry = in.entries[address];
        switch (what) {
            case 0:
                return entry.mapped ? entry.rights : 0;
            case 1:
                return entry.mapped ? entry.state : NONE;
            case 2:
                return entry.page == null ? NONE : entry.page.frame;
            case 3:
                return entry.page == null ? NONE : asNumber(entry.writable);
            case 4:
                return entry.record == null ? NONE : entry.record.place;
            default:
                return asNumber(isJoined(entry.block));
        }
    }

    public int frame(int frame, int what) throws IllegalArgumentException {
        demand(within(frame, 0, FRAMES - 1) && within(what, 0, 7));
        Page page = pages[frame];
        if (what == 0) {
            return page.kind == NOTHING && isTranslated(frame) ? LINGERS : page.kind;
        }
        return page.kind == NOTHING ? NONE : page.number(what);
    }

    public int list(int list, int place) throws IllegalArgumentException {
        demand(within(list, IDLE, ACTIVE) && place >= 0);
        return frameAt(list, place);
    }

    public int about(int space, int what) throws IndexOutOfBoundsException, IllegalArgumentException {
        Space in = known(space);
        demand(within(what, 0, 5));
        switch (what) {
            case 0:
                return asNumber(in.living);
            case 1:
                return in.regions();
            case 2:
                return in.having(PRESENT);
            case 3:
                return in.having(OUT);
            case 4:
                return blocks(in);
            default:
                return in.score();
        }
    }

    public int count(int what) throws IllegalArgumentException {
        demand(within(what, 0, 10));
        if (what < COUNTED) {
            return counts[what];
        }
        if (what == 8) {
            return records.used;
        }
        return what == 9 ? records.placesTaken() : messages();
    }

    // ---- tests of what a call is given

    private static void demand(boolean holds) {
        if (!holds) {
            throw new IllegalArgumentException("out of range");
        }
    }

    private static void permit(boolean holds) {
        if (!holds) {
            throw new IllegalStateException("not as things are");
        }
    }

    private Space known(int space) {
        if (space < 0 || space >= made || space >= SPACES) {
            throw new IndexOutOfBoundsException("no such space");
        }
        return spaces[space];
    }

    private Cache cacheOf(int processor) {
        if (processor < 0 || processor >= PROCESSORS) {
            throw new IndexOutOfBoundsException("no such processor");
        }
        return caches[processor];
    }

    private static boolean within(int number, int lowest, int highest) {
        return number >= lowest && number <= highest;
    }

    private static boolean isStretch(int from, int count) {
        return within(from, 0, ADDRESSES - 1) && within(count, 1, ADDRESSES - from);
    }

    private static boolean isInFile(int file, int index) {
        return within(file, 0, FILES - 1) && within(index, 0, INDICES - 1);
    }

    private static int asNumber(boolean is) {
        return is ? 1 : 0;
    }

    // ---- spaces and their entries

    /** Takes the next space; its caller has tested that there is one. */
    private Space begin(int group) {
        Space space = spaces[made < SPACES ? made : SPACES - 1];
        made++;
        space.group = group;
        space.living = true;
        return space;
    }

    private void bury(Space space) {
        for (Entry entry : space.entries) {
            remove(entry);
        }
        space.living = false;
    }

    private void remove(Entry entry) {
        if (entry.mapped) {
            leave(entry);
            entry.clear();
        }
    }

    /** The entry is ABSENT behind this, whatever it had. */
    private void leave(Entry entry) {
        entry.tellProcessors();
        setJoined(entry.block, false);
        Page page = entry.page;
        Record record = entry.record;
        entry.becomeAbsent();
        if (page != null) {
            page.holders--;
            if (page.kind == LOOSE && page.holders <= 0) {
                page.kind = NOTHING;
            }
        }
        if (record != null) {
            records.release(record);
        }
    }

    /** What the entry had until now is left only here, for its record may have come while a frame was sought. */
    private void give(Entry entry, Page page, boolean writable) {
        leave(entry);
        entry.state = PRESENT;
        entry.page = page;
        entry.writable = writable;
        page.holders++;
    }

    private void forbidStoresInto(Page page) {
        for (Space space : spaces) {
            for (Entry entry : space.entries) {
                if (entry.page == page) {
                    entry.forbidStores();
                }
            }
        }
    }

    private boolean isJoined(int block) {
        return block >= 0 && block < joined.length && joined[block];
    }

    private void setJoined(int block, boolean is) {
        if (block >= 0 && block < joined.length) {
            joined[block] = is;
        }
    }

    private int blocks(Space space) {
        int blocks = 0;
        for (int i = 0; i < ADDRESSES; i += BLOCK) {
            blocks += isJoined(space.entries[i].block) ? 1 : 0;
        }
        return blocks;
    }

    private static boolean canBeBlock(Space space, int first) {
        if (first < 0 || first + BLOCK > ADDRESSES) {
            return false;
        }
        for (int i = first; i < first + BLOCK; i++) {
            Entry entry = space.entries[i];
            Page page = entry.page;
            if (entry.file != NONE || page == null || !page.isMergeable() || page.holders != 1) {
                return false;
            }
            if (i > first && !entry.continues(space.entries[i - 1])) {
                return false;
            }
        }
        return true;
    }

    // ---- accesses

    /** A value of NONE is to load. */
    private int access(Cache cache, Space space, int address, int value) {
        cache.obey();
        if (address < 0 || address >= ADDRESSES) {
            return NOT_MAPPED;
        }
        Entry entry = space.entries[address];
        if (!entry.mapped && !space.grow(address)) {
            return NOT_MAPPED;
        }
        boolean storing = value != NONE;
        if ((entry.rights & (storing ? TO_STORE : TO_LOAD)) == 0) {
            return NO_RIGHT;
        }
        if (cache.serves(entry, storing)) {
            counts[HITS]++;
        } else {
            counts[MISSES]++;
            Page source = entry.page;
            if (entry.state == ABSENT && entry.file != NONE) {
                int frame = cachedFrame(entry.file, entry.index, space);
                source = pageIn(frame);
                if (source == null) {
                    return frame;
                }
            }
            int told = fault(space, entry, source, storing);
            if (told < 0) {
                return told;
            }
            if (entry.page == null) {
                return FULL;
            }
            cache.take(entry, entry.page);
        }
        return entry.page == null ? FULL : touch(entry.page, value);
    }

    /** Gives the entry the source, or a new page; a number below 0 is what the access tells instead. */
    private int fault(Space space, Entry entry, Page source, boolean storing) {
        if (source != null && (!storing || entry.writable || isStorable(entry, source))) {
            if (entry.page != source) {
                give(entry, source, storing);
            } else if (storing) {
                entry.writable = true;
                source.merged = false;
            }
            return 0;
        }
        int value = source != null ? source.value : entry.record != null ? entry.record.value : 0;
        int frame = frameFor(space.group, space);
        Page page = pageIn(frame);
        if (page == null) {
            return frame;
        }
        page.begin(LOOSE, value, space.group);
        bringToEnd(page, IDLE);
        counts[COPIES] += source == null ? 0 : 1;
        give(entry, page, storing);
        return 0;
    }

    /** Whether the entry may store into the page itself, and needs no copy. */
    private static boolean isStorable(Entry entry, Page page) {
        return page.kind == CACHED ? entry.shared : page.holders == 1;
    }

    private static int touch(Page page, int value) {
        int before = page.value;
        page.seen = true;
        if (value != NONE) {
            page.value = value;
            page.dirty = page.kind == CACHED;
        }
        return before;
    }

    // ---- files

    private int accessFile(int file, int index, int value) {
        int frame = cachedFrame(file, index, null);
        Page page = pageIn(frame);
        return page == null ? frame : touch(page, value);
    }

    /** The frame of the cached page, which is read if there is none; needing is null for a call for a file. */
    private int cachedFrame(int file, int index, Space needing) {
        for (Page page : pages) {
            if (page.kind == CACHED && page.file == file && page.index == index) {
                return page.frame;
            }
        }
        int group = needing == null ? 0 : needing.group;
        int frame = frameFor(group, needing);
        int at = file * INDICES + index;
        Page page = pageIn(frame);
        if (page == null || at < 0 || at >= FILES * INDICES) {
            return frame;
        }
        boolean refault = evictedAs[at] != NONE && counts[EVICTED] - evictedAs[at] <= members(ACTIVE, NONE);
        counts[REFAULTS] += refault ? 1 : 0;
        counts[DISK_READS]++;
        page.begin(CACHED, onDisk[at], group);
        page.file = file;
        page.index = index;
        bringToEnd(page, refault ? ACTIVE : IDLE);
        return frame;
    }

    private void writeBack(Page page) {
        int at = page.file * INDICES + page.index;
        if (at >= 0 && at < FILES * INDICES) {
            onDisk[at] = page.value;
            counts[DISK_WRITES]++;
            page.dirty = false;
        }
    }

    // ---- frames

    /** The frame for a new page of the group, or KILLED or FULL. */
    private int frameFor(int group, Space needing) {
        for (int turn = 0; turn < ENOUGH && isAtLimit(group); turn++) {
            if (!evictOne(group)) {
                Space victim = victim(group);
                if (victim == null) {
                    break;
                }
                bury(victim);
                counts[KILLS]++;
                if (victim == needing) {
                    return KILLED;
                }
            }
        }
        for (int turn = 0; turn < ENOUGH; turn++) {
            int frame = lowestWithoutPage(false);
            if (frame != NONE) {
                return frame;
            }
            if (lowestWithoutPage(true) != NONE) {
                handleAll();
            } else if (!evictOne(NONE)) {
                Space victim = victim(NONE);
                if (victim == null) {
                    return FULL;
                }
                bury(victim);
                counts[KILLS]++;
                if (victim == needing) {
                    return KILLED;
                }
            }
        }
        return FULL;
    }

    private boolean isAtLimit(int group) {
        return group >= 0 && group < GROUPS && limits[group] != NONE && pagesOf(group) >= limits[group];
    }

    private int pagesOf(int group) {
        return members(IDLE, group) + members(ACTIVE, group);
    }

    private int lowestWithoutPage(boolean lingering) {
        for (int i = 0; i < FRAMES; i++) {
            if (pages[i].kind == NOTHING && isTranslated(i) == lingering) {
                return i;
            }
        }
        return NONE;
    }

    private boolean isTranslated(int frame) {
        for (Cache cache : caches) {
            if (cache.holds(frame)) {
                return true;
            }
        }
        return false;
    }

    /** Evicts a page of the group, or of all if that is NONE; tells whether one could be. */
    private boolean evictOne(int group) {
        int turns = 2 * pagesOf(group);
        for (int turn = 0; turn < turns; turn++) {
            balance(group);
            Page page = firstMember(IDLE, group);
            if (page == null) {
                return false;
            }
            if (!page.seen && putOut(page)) {
                return true;
            }
            page.seen = false;
            bringToEnd(page, ACTIVE);
        }
        return false;
    }

    private void balance(int group) {
        int excess = members(ACTIVE, group) - members(IDLE, group);
        // Each page that changes its list brings the two nearer by two.
        for (; excess > 0; excess -= 2) {
            Page page = firstMember(ACTIVE, group);
            if (page == null) {
                return;
            }
            page.seen = false;
            bringToEnd(page, IDLE);
        }
    }

    private boolean putOut(Page page) {
        Record record = null;
        if (page.kind == CACHED) {
            if (page.dirty) {
                writeBack(page);
            }
            noteEviction(page);
        } else {
            record = records.keep(page.value);
            if (record == null) {
                return false;
            }
        }
        for (Space space : spaces) {
            for (Entry entry : space.entries) {
                if (entry.page == page) {
                    entry.tellProcessors();
                    setJoined(entry.block, false);
                    entry.becomeOut(record);
                }
            }
        }
        page.kind = NOTHING;
        counts[EVICTED]++;
        return true;
    }

    /** The number that is kept counts the page itself, so that it is left out of those since. */
    private void noteEviction(Page page) {
        int at = page.file * INDICES + page.index;
        if (at >= 0 && at < FILES * INDICES) {
            evictedAs[at] = counts[EVICTED] + 1;
        }
    }

    /** Who is killed next; null if nobody is left. */
    private Space victim(int group) {
        Space victim = null;
        for (Space space : spaces) {
            boolean isOne = space.living && (group == NONE || space.group == group);
            if (isOne && (victim == null || space.score() > victim.score())) {
                victim = space;
            }
        }
        return victim;
    }

    // ---- lists

    private Page pageIn(int frame) {
        return frame >= 0 && frame < FRAMES ? pages[frame] : null;
    }

    private void bringToEnd(Page page, int list) {
        lastTurn++;
        page.turn = lastTurn;
        page.list = list;
    }

    /** How many pages of the group, or of all if that is NONE, are in the list. */
    private int members(int list, int group) {
        int members = 0;
        for (Page page : pages) {
            members += page.isMember(list, group) ? 1 : 0;
        }
        return members;
    }

    private Page firstMember(int list, int group) {
        Page first = null;
        for (Page page : pages) {
            if (page.isMember(list, group) && (first == null || page.turn < first.turn)) {
                first = page;
            }
        }
        return first;
    }

    private int frameAt(int list, int place) {
        for (Page page : pages) {
            if (page.isMember(list, NONE) && membersAhead(page) == place) {
                return page.frame;
            }
        }
        return NONE;
    }

    private int membersAhead(Page of) {
        int ahead = 0;
        for (Page page : pages) {
            ahead += page.isMember(of.list, NONE) && page.turn < of.turn ? 1 : 0;
        }
        return ahead;
    }

    // ---- messages

    private void handleAll() {
        for (Cache cache : caches) {
            cache.obey();
        }
    }

    private int messages() {
        int messages = 0;
        for (Cache cache : caches) {
            messages += cache.messages();
        }
        return messages;
    }

    // ---- scanning

    private boolean isSomeToMerge() {
        for (Space space : spaces) {
            if (space.isScanned()) {
                return true;
            }
        }
        return false;
    }

    private void passToNextSpace() {
        scanAddress = 0;
        scanSpace++;
        if (scanSpace >= SPACES) {
            scanSpace = 0;
            for (Space space : spaces) {
                for (Entry entry : space.entries) {
                    entry.looked = false;
                }
            }
        }
    }

    /** Tells whether the entry got another page. */
    private boolean look(Entry entry) {
        Page own = entry.page;
        if (own == null || !own.isMergeable()) {
            return false;
        }
        Page twin = mergedTwin(own);
        if (twin == null) {
            Entry other = lookedTwin(own);
            if (other == null || other.page == null) {
                entry.looked = true;
                return false;
            }
            twin = other.page;
            twin.merged = true;
            other.forbidStores();
            setJoined(other.block, false);
        }
        give(entry, twin, false);
        return true;
    }

    private Page mergedTwin(Page like) {
        for (Page page : pages) {
            if (page.kind == LOOSE && page.merged && page.value == like.value) {
                return page;
            }
        }
        return null;
    }

    private Entry lookedTwin(Page like) {
        for (Space space : spaces) {
            for (Entry entry : space.entries) {
                Page page = entry.looked ? entry.page : null;
                if (page != null && page != like && page.isMergeable() && page.value == like.value) {
                    return entry;
                }
            }
        }
        return null;
    }

    // ---- the parts

    /** An address of a space, mapped or not, with its entry. */
    private static final class Entry {
        static final int EVERY_PROCESSOR = (1 << PROCESSORS) - 1;

        /** Which four addresses it is one of, counted through all spaces. */
        final int block;
        boolean mapped;
        int rights;
        int file = NONE;
        int index;
        boolean shared;
        boolean grows;
        int state = ABSENT;
        Page page;
        boolean writable;
        Record record;
        /** Whether it was looked at in this round of scanning, and got no other page by that. */
        boolean looked;
        /** A bit for each processor: if that has its translation, it has a message for it. */
        int told;

        Entry(int block) {
            this.block = block;
        }

        void tellProcessors() {
            if (state == PRESENT) {
                told = EVERY_PROCESSOR;
            }
        }

        void forbidStores() {
            if (writable) {
                tellProcessors();
                writable = false;
            }
        }

        /** Index and sharing of nothing are made alike, so that regions do not differ by them. */
        void establish(int newRights, int newFile, int newIndex, boolean newShared, boolean newGrows) {
            mapped = true;
            rights = newRights;
            file = newFile;
            index = newFile == NONE ? 0 : newIndex;
            shared = newFile != NONE && newShared;
            grows = newGrows;
        }

        void clear() {
            mapped = false;
            rights = 0;
            file = NONE;
            index = 0;
            shared = false;
            grows = false;
            looked = false;
            becomeAbsent();
        }

        void becomeAbsent() {
            state = ABSENT;
            page = null;
            writable = false;
            record = null;
        }

        /** For an eviction: without a record the page was a cached one. */
        void becomeOut(Record to) {
            becomeAbsent();
            if (to != null) {
                state = OUT;
                record = to;
                to.holders++;
            }
        }

        void takeOver(Entry old) {
            establish(old.rights, old.file, old.index, old.shared, old.grows);
            state = old.state;
            page = old.page;
            writable = old.writable;
            record = old.record;
            looked = false;
            old.clear();
        }

        void resemble(Entry parent) {
            if (!parent.mapped) {
                return;
            }
            establish(parent.rights, parent.file, parent.index, parent.shared, parent.grows);
            state = parent.state;
            page = parent.page;
            record = parent.record;
            if (page != null) {
                page.holders++;
            }
            if (record != null) {
                record.holders++;
            }
        }

        boolean continues(Entry below) {
            return mapped && below.mapped && rights == below.rights && file == below.file
                    && shared == below.shared && grows == below.grows
                    && (file == NONE || index == below.index + 1);
        }
    }

    private static final class Space {
        final int number;
        final Entry[] entries = new Entry[ADDRESSES];
        int group;
        int adjusted;
        boolean living;
        boolean merging;

        Space(int number) {
            this.number = number;
            for (int i = 0; i < ADDRESSES; i++) {
                entries[i] = new Entry((number * ADDRESSES + i) / BLOCK);
            }
        }

        boolean isScanned() {
            return living && merging;
        }

        int mapped(int from, int count) {
            int mapped = 0;
            for (int i = from; i >= 0 && i < from + count && i < ADDRESSES; i++) {
                mapped += entries[i].mapped ? 1 : 0;
            }
            return mapped;
        }

        int regions() {
            int regions = 0;
            for (int i = 0; i < ADDRESSES; i++) {
                boolean starts = i == 0 || !entries[i].continues(entries[i - 1]);
                regions += entries[i].mapped && starts ? 1 : 0;
            }
            return regions;
        }

        int having(int state) {
            int having = 0;
            for (Entry entry : entries) {
                having += entry.mapped && entry.state == state ? 1 : 0;
            }
            return having;
        }

        int score() {
            return having(PRESENT) + having(OUT) + adjusted;
        }

        /** Maps the address like the one above it, if that grows down to it; tells whether it did. */
        boolean grow(int address) {
            if (address < 0 || address + 1 >= ADDRESSES) {
                return false;
            }
            Entry above = entries[address + 1];
            boolean isNear = address > 0 && entries[address - 1].mapped;
            if (!above.mapped || !above.grows || isNear || above.file != NONE && above.index == 0) {
                return false;
            }
            entries[address].establish(above.rights, above.file, above.index - 1, above.shared, true);
            return true;
        }
    }

    /** A frame, and the page in it, if its kind is not NOTHING. */
    private static final class Page {
        final int frame;
        int kind = NOTHING;
        int value;
        int list;
        int turn;
        boolean seen;
        int holders;
        int group;
        boolean merged;
        boolean dirty;
        int file;
        int index;

        Page(int frame) {
            this.frame = frame;
        }

        void begin(int newKind, int newValue, int newGroup) {
            kind = newKind;
            value = newValue;
            group = newGroup;
            seen = false;
            holders = 0;
            merged = false;
            dirty = false;
        }

        boolean isMember(int ofList, int ofGroup) {
            return kind != NOTHING && list == ofList && (ofGroup == NONE || group == ofGroup);
        }

        boolean isMergeable() {
            return kind == LOOSE && !merged;
        }

        int number(int what) {
            switch (what) {
                case 1:
                    return value;
                case 2:
                    return list;
                case 3:
                    return asNumber(seen);
                case 4:
                    return holders;
                case 5:
                    return group;
                case 6:
                    return asNumber(kind == CACHED ? dirty : merged);
                default:
                    return kind == CACHED ? 10 * file + index : NONE;
            }
        }
    }

    /** What a page was put out as; it is in use while an entry has it. */
    private static final class Record {
        int value;
        int size;
        int place;
        int turn;
        int holders;
    }

    /** The store, and the places behind it. */
    private static final class Records {
        static final int ROOM = 8, PLACES = 10, COMPRESSED = 10;
        static final int MOST = ROOM + PLACES;
        static final int SMALL = 100, MIDDLE = 10000;

        final Record[] all = new Record[MOST];
        final boolean[] taken = new boolean[PLACES];
        int used;
        int lastTurn;

        Records() {
            for (int i = 0; i < MOST; i++) {
                all[i] = new Record();
            }
        }

        /** A record of the value, which its caller gives to an entry at once; null if there is no room for it. */
        Record keep(int value) {
            boolean isLarge = value >= MIDDLE;
            int size = value < SMALL ? 1 : 2;
            for (int turn = 0; !isLarge && used + size > ROOM && turn < MOST; turn++) {
                Record oldest = oldestStored();
                int place = freePlace();
                if (oldest == null || place < 0 || place >= PLACES) {
                    break;
                }
                taken[place] = true;
                oldest.place = place;
                used -= oldest.size;
            }
            int place = !isLarge && used + size <= ROOM ? COMPRESSED : freePlace();
            Record record = unused();
            if (record == null || place == NONE) {
                return null;
            }
            if (place == COMPRESSED) {
                used += size;
            } else if (place >= 0 && place < PLACES) {
                taken[place] = true;
            }
            lastTurn++;
            record.turn = lastTurn;
            record.value = value;
            record.size = size;
            record.place = place;
            return record;
        }

        void release(Record record) {
            record.holders--;
            if (record.holders > 0) {
                return;
            }
            if (record.place == COMPRESSED) {
                used -= record.size;
            } else if (record.place >= 0 && record.place < PLACES) {
                taken[record.place] = false;
            }
        }

        int placesTaken() {
            int places = 0;
            for (boolean is : taken) {
                places += is ? 1 : 0;
            }
            return places;
        }

        private Record unused() {
            for (Record record : all) {
                if (record.holders == 0) {
                    return record;
                }
            }
            return null;
        }

        private Record oldestStored() {
            Record oldest = null;
            for (Record record : all) {
                boolean isStored = record.holders > 0 && record.place == COMPRESSED;
                if (isStored && (oldest == null || record.turn < oldest.turn)) {
                    oldest = record;
                }
            }
            return oldest;
        }

        private int freePlace() {
            for (int place = 0; place < PLACES; place++) {
                if (!taken[place]) {
                    return place;
                }
            }
            return NONE;
        }
    }

    /** What a processor remembers of an entry, as that was when it was taken. */
    private static final class Translation {
        Entry entry;
        int frame;
        boolean writable;
    }

    /** The translations of a processor, the first ones oldest. */
    private static final class Cache {
        static final int MOST = 4;

        /** What stands for this processor in what an entry knows of its translations. */
        final int bit;
        final Translation[] all = new Translation[MOST];
        int size;

        Cache(int bit) {
            this.bit = bit;
            for (int i = 0; i < MOST; i++) {
                all[i] = new Translation();
            }
        }

        boolean serves(Entry entry, boolean storing) {
            for (int i = 0; i < size && i < MOST; i++) {
                if (all[i].entry == entry) {
                    return !storing || all[i].writable;
                }
            }
            return false;
        }

        boolean holds(int frame) {
            for (int i = 0; i < size && i < MOST; i++) {
                if (all[i].frame == frame) {
                    return true;
                }
            }
            return false;
        }

        int messages() {
            int messages = 0;
            for (int i = 0; i < size && i < MOST; i++) {
                messages += isTold(all[i].entry) ? 1 : 0;
            }
            return messages;
        }

        /** Handles all messages, and tells how many there were. */
        int obey() {
            int messages = 0;
            for (int i = size - 1; i >= 0 && i < MOST; i--) {
                if (isTold(all[i].entry)) {
                    messages++;
                    dismiss(i);
                }
            }
            return messages;
        }

        /** Takes the translation of an entry that has the page, in place of an older one of it. */
        void take(Entry entry, Page page) {
            int place = 0;
            while (place < size && place < MOST && all[place].entry != entry) {
                place++;
            }
            if (place >= MOST) {
                dismiss(0);
                place = MOST - 1;
            }
            size = Math.max(size, place + 1);
            Translation here = all[place];
            here.entry = entry;
            here.frame = page.frame;
            here.writable = entry.writable;
            entry.told &= ~bit;
        }

        private boolean isTold(Entry entry) {
            return entry != null && (entry.told & bit) != 0;
        }

        /** What leaves is kept behind the others, to be used again. */
        private void dismiss(int place) {
            if (place < 0 || place >= size || size > MOST) {
                return;
            }
            Translation leaving = all[place];
            for (int i = place; i < size - 1 && i < MOST - 1; i++) {
                all[i] = all[i + 1];
            }
            size--;
            all[size] = leaving;
        }
    }
}
