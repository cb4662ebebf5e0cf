import java.util.ArrayList;
import java.util.NoSuchElementException;

/**
 * A volume of files and folders that notes each change in a ring before it is done, with
 * subscribers who read the notes and followers who keep copies by them. Power may fail
 * between any two writes.
 */
public final class NotedVolume {
    public static final int NONE = -1;
    public static final int CUT = -2;

    private static final int ROOT = 0;
    private static final int FOLDER = 1;
    private static final int PLAIN_FILE = 0;

    private static final int CREATED = 1;
    private static final int CONTENT = 2;
    private static final int RENAMED_FROM = 4;
    private static final int RENAMED_TO = 8;
    private static final int MOVED = 16;
    private static final int REMOVED = 32;
    private static final int CLOSED = 64;
    private static final int ALL_REASONS = 127;

    private static final int MOST_LIVE = 20;
    private static final int MOST_OPEN = 3;
    private static final int MOST_ACTIONS = 40;
    private static final int CELLS = 16;
    private static final int PAGE_SIZE = 4;
    private static final int SUBSCRIBERS = 3;
    private static final int FILE_ITEMS = 4;
    private static final int NOTE_ITEMS = 6;

    // A copy may keep files that are long gone, but no more than 512 calls can have made.
    private static final int MOST_COPIED = 512;

    private static final int WITHOUT_END = 0x7fffffff;

    private final FileTable files;
    private final Ring ring;
    private final Gatherings gatherings;
    private final Subscriber[] subscribers;
    private int nextNumber;
    private boolean powered;
    private int writesLeft;

    public NotedVolume() {
        files = new FileTable(MOST_LIVE);
        ring = new Ring();
        gatherings = new Gatherings();
        subscribers = new Subscriber[SUBSCRIBERS];
        for (int s = 0; s < SUBSCRIBERS; s++) {
            subscribers[s] = new Subscriber();
        }
        nextNumber = 1;
        powered = true;
        writesLeft = NONE;
    }

    public int make(int parent, boolean folder, int name)
            throws IllegalStateException, IllegalArgumentException, NoSuchElementException,
            UnsupportedOperationException {
        checkPower();
        if (files.count() >= MOST_LIVE) {
            throw new IllegalStateException("20 files live");
        }
        checkName(name);
        checkFolder(parent);
        checkNameFree(parent, name, NONE);
        Entry made = new Entry(nextNumber, folder ? FOLDER : PLAIN_FILE, parent, name, 0);
        if (!noteAndDo(made, CREATED)) {
            return CUT;
        }
        nextNumber++;
        return made.number;
    }

    public int change(int file)
            throws IllegalStateException, NoSuchElementException, UnsupportedOperationException {
        checkPower();
        Entry before = liveEntry(file);
        if (before.sort == FOLDER) {
            throw new UnsupportedOperationException("a folder has no content");
        }
        Entry after = new Entry(file, before.sort, before.parent, before.name, before.mark + 1);
        return noteAndDo(after, CONTENT) ? after.mark : CUT;
    }

    public boolean rename(int file, int parent, int name)
            throws IllegalStateException, IllegalArgumentException, NoSuchElementException,
            UnsupportedOperationException {
        checkPower();
        checkName(name);
        Entry before = liveEntry(file);
        checkFolder(parent);
        if (isOrLiesIn(parent, file)) {
            throw new UnsupportedOperationException("a folder can't lie in itself");
        }
        checkNameFree(parent, name, file);
        boolean moves = parent != before.parent;
        if (!moves && name == before.name) {
            return false;
        }
        if (!writeChangeNote(before, RENAMED_FROM)) {
            return false;
        }
        Entry after = new Entry(file, before.sort, parent, name, before.mark);
        return noteAndDo(after, moves ? RENAMED_TO | MOVED : RENAMED_TO);
    }

    public boolean remove(int file)
            throws IllegalStateException, NoSuchElementException, UnsupportedOperationException {
        checkPower();
        Entry before = liveEntry(file);
        if (files.hasFilesIn(file)) {
            throw new UnsupportedOperationException("files lie in it");
        }
        if (!writeChangeNote(before, REMOVED) || !spendWrite()) {
            return false;
        }
        files.drop(file);
        return true;
    }

    public boolean close(int file) throws IllegalStateException, NoSuchElementException {
        checkPower();
        Gathering gathering = gatherings.gatheringOf(file);
        if (gathering == null) {
            throw new NoSuchElementException("no gathering of it is open");
        }
        return writeClosingNote(gathering);
    }

    public int open() {
        return gatherings.count();
    }

    public int of(int file, int what) throws NoSuchElementException, IndexOutOfBoundsException {
        Entry entry = liveEntry(file);
        checkItem(what, FILE_ITEMS);
        return entry.item(what);
    }

    public int find(int parent, int name) {
        Entry entry = files.entryNamed(parent, name);
        return entry == null ? NONE : entry.number;
    }

    public int live() {
        return files.count();
    }

    public int tail() {
        return ring.leastKept();
    }

    public int head() {
        return ring.nextSerial();
    }

    public int note(int serial, int what) throws NoSuchElementException, IndexOutOfBoundsException {
        Note kept = ring.noteAt(serial);
        if (kept == null) {
            throw new NoSuchElementException("the note is not kept");
        }
        checkItem(what, NOTE_ITEMS);
        return kept.item(what);
    }

    public void subscribe(int s, int mask) throws IndexOutOfBoundsException, IllegalArgumentException {
        Subscriber subscriber = subscriberAt(s);
        if (mask < 0 || mask > ALL_REASONS) {
            throw new IllegalArgumentException("the mask is not 0 .. 127");
        }
        subscriber.beginAnew(mask, ring);
    }

    public int cursor(int s) throws IndexOutOfBoundsException {
        return subscriberAt(s).cursor;
    }

    public int read(int s) throws IndexOutOfBoundsException {
        Subscriber subscriber = subscriberAt(s);
        return subscriber.takeNote(ring, subscriber.mask);
    }

    public void list(int s) throws IndexOutOfBoundsException {
        subscriberAt(s).beginListing(ring);
    }

    public int page(int s) throws IndexOutOfBoundsException, IllegalStateException {
        Subscriber subscriber = subscriberAt(s);
        if (!subscriber.listing) {
            throw new IllegalStateException("no listing goes on");
        }
        return subscriber.showPage(files);
    }

    public int shown(int s, int k) throws IndexOutOfBoundsException {
        Subscriber subscriber = subscriberAt(s);
        return k < 0 || k >= PAGE_SIZE ? NONE : subscriber.pageNumbers[k];
    }

    public int follow(int s, int n) throws IndexOutOfBoundsException, IllegalArgumentException {
        Subscriber subscriber = subscriberAt(s);
        if (n < 0 || n > MOST_ACTIONS) {
            throw new IllegalArgumentException("the number of actions is not 0 .. 40");
        }
        int happened = 0;
        for (int i = 0; i < n; i++) {
            if (subscriber.act(ring, files)) {
                happened++;
            }
        }
        return happened;
    }

    public int copied(int s, int file, int what) throws IndexOutOfBoundsException, NoSuchElementException {
        Subscriber subscriber = subscriberAt(s);
        checkItem(what, FILE_ITEMS);
        Entry entry = subscriber.copy.entryOf(file);
        if (entry == null) {
            throw new NoSuchElementException("it is not in the copy");
        }
        return entry.item(what);
    }

    public boolean inStep(int s) throws IndexOutOfBoundsException {
        return subscriberAt(s).copy.isLike(files);
    }

    public void cutAfter(int n) throws IllegalArgumentException {
        if (n < NONE) {
            throw new IllegalArgumentException("less than NONE");
        }
        writesLeft = n;
    }

    public int start() {
        if (powered) {
            return NONE;
        }
        powered = true;
        writesLeft = NONE;
        // All are recalled before any is closed, so that the ring which they are found in does
        // not change meanwhile.
        gatherings.recall(ring);
        int closed = gatherings.count();
        for (int i = 0; i < closed; i++) {
            Gathering first = gatherings.first();
            if (first != null) {
                endGathering(first);
            }
        }
        return closed;
    }

    public boolean isOn() {
        return powered;
    }

    private void checkPower() {
        if (!powered) {
            throw new IllegalStateException("power is off");
        }
    }

    private static void checkName(int name) {
        if (name == 0) {
            throw new IllegalArgumentException("0 is no name");
        }
    }

    private static void checkItem(int what, int items) {
        if (what < 0 || what >= items) {
            throw new IndexOutOfBoundsException("there is no such what");
        }
    }

    private void checkFolder(int parent) {
        if (parent == ROOT) {
            return;
        }
        if (liveEntry(parent).sort != FOLDER) {
            throw new UnsupportedOperationException("the parent is no folder");
        }
    }

    /** Refuses a name that another file than the given one has in the folder. */
    private void checkNameFree(int parent, int name, int file) {
        Entry entry = files.entryNamed(parent, name);
        if (entry != null && entry.number != file) {
            throw new UnsupportedOperationException("the folder has a file of this name");
        }
    }

    private Entry liveEntry(int file) {
        Entry entry = files.entryOf(file);
        if (entry == null) {
            throw new NoSuchElementException("the file does not live");
        }
        return entry;
    }

    private Subscriber subscriberAt(int s) {
        if (s < 0 || s >= SUBSCRIBERS) {
            throw new IndexOutOfBoundsException("there is no such subscriber");
        }
        return subscribers[s];
    }

    private boolean isOrLiesIn(int inner, int outer) {
        int at = inner;
        for (int depth = 0; depth <= MOST_LIVE; depth++) {
            if (at == outer) {
                return true;
            }
            Entry entry = files.entryOf(at);
            if (entry == null) {
                return false;
            }
            at = entry.parent;
        }
        return false;
    }

    /** Counts one write off; false when power fails in its place. */
    private boolean spendWrite() {
        if (writesLeft == 0) {
            powered = false;
            gatherings.forget();
            return false;
        }
        if (writesLeft > 0) {
            writesLeft--;
        }
        return true;
    }

    /** Writes the last note of a change, then puts the file into the volume as it is behind it. */
    private boolean noteAndDo(Entry after, int reasons) {
        if (!writeChangeNote(after, reasons) || !spendWrite()) {
            return false;
        }
        files.put(after);
        return true;
    }

    private boolean writeChangeNote(Entry entry, int reasons) {
        Gathering inTheWay = gatherings.inTheWayOf(entry.number);
        if (inTheWay != null && !writeClosingNote(inTheWay)) {
            return false;
        }
        if (!spendWrite()) {
            return false;
        }
        ring.append(entry, gatherings.gather(entry.number, reasons));
        return true;
    }

    private boolean writeClosingNote(Gathering gathering) {
        if (!spendWrite()) {
            return false;
        }
        endGathering(gathering);
        return true;
    }

    private void endGathering(Gathering gathering) {
        int file = gathering.file;
        Entry now = files.entryOf(file);
        if (now == null) {
            now = new Entry(file, 0, 0, 0, 0);
        }
        ring.append(now, gathering.reasons | CLOSED);
        gatherings.take(file);
    }

    /** What a file is like at one time; never changed, so that notes and copies may share it. */
    private static final class Entry {
        final int number;
        final int sort;
        final int parent;
        final int name;
        final int mark;

        Entry(int number, int sort, int parent, int name, int mark) {
            this.number = number;
            this.sort = sort;
            this.parent = parent;
            this.name = name;
            this.mark = mark;
        }

        int item(int what) {
            switch (what) {
                case 0:
                    return sort;
                case 1:
                    return parent;
                case 2:
                    return name;
                default:
                    return mark;
            }
        }

        boolean isLike(Entry other) {
            return number == other.number && sort == other.sort && parent == other.parent
                    && name == other.name && mark == other.mark;
        }
    }

    /** Files in the order of their numbers: those of the volume, or those of a copy. */
    private static final class FileTable {
        private final ArrayList<Entry> rows;
        private final int most;

        FileTable(int most) {
            this.rows = new ArrayList<Entry>();
            this.most = most;
        }

        int count() {
            return rows.size();
        }

        /** The file with the least number above the given one; null if none. */
        Entry entryAbove(int number) {
            for (int i = 0; i < rows.size(); i++) {
                Entry row = rows.get(i);
                if (row.number > number) {
                    return row;
                }
            }
            return null;
        }

        Entry entryOf(int number) {
            for (int i = 0; i < rows.size(); i++) {
                Entry row = rows.get(i);
                if (row.number == number) {
                    return row;
                }
            }
            return null;
        }

        Entry entryNamed(int parent, int name) {
            for (int i = 0; i < rows.size(); i++) {
                Entry row = rows.get(i);
                if (row.parent == parent && row.name == name) {
                    return row;
                }
            }
            return null;
        }

        boolean hasFilesIn(int parent) {
            for (int i = 0; i < rows.size(); i++) {
                if (rows.get(i).parent == parent) {
                    return true;
                }
            }
            return false;
        }

        /** Puts a file in at the place of its number, over what it was like there before. */
        void put(Entry entry) {
            int place = 0;
            while (place < rows.size() && rows.get(place).number < entry.number) {
                place++;
            }
            if (place < rows.size() && rows.get(place).number == entry.number) {
                rows.set(place, entry);
            } else if (rows.size() < most) {
                rows.add(place, entry);
            }
        }

        void drop(int number) {
            for (int i = 0; i < rows.size(); i++) {
                if (rows.get(i).number == number) {
                    rows.remove(i);
                    return;
                }
            }
        }

        void dropRange(int above, int upTo) {
            for (int i = rows.size() - 1; i >= 0; i--) {
                int number = rows.get(i).number;
                if (number > above && number <= upTo) {
                    rows.remove(i);
                }
            }
        }

        boolean isLike(FileTable other) {
            if (rows.size() != other.rows.size()) {
                return false;
            }
            for (int i = 0; i < rows.size(); i++) {
                if (!rows.get(i).isLike(other.rows.get(i))) {
                    return false;
                }
            }
            return true;
        }
    }

    /** A file as it is noted, with the reasons of the note. */
    private static final class Note {
        final Entry entry;
        final int reasons;

        Note(Entry entry, int reasons) {
            this.entry = entry;
            this.reasons = reasons;
        }

        boolean hasAny(int mask) {
            return (reasons & mask) != 0;
        }

        int item(int what) {
            switch (what) {
                case 0:
                    return entry.number;
                case 5:
                    return reasons;
                default:
                    return entry.item(what - 1);
            }
        }
    }

    /** The latest notes, each in the cell that its serial tells. */
    private static final class Ring {
        private final Note[] cells;
        private int next;

        Ring() {
            cells = new Note[CELLS];
            next = 1;
        }

        int nextSerial() {
            return next;
        }

        int leastKept() {
            return next > CELLS ? next - CELLS : 1;
        }

        Note noteAt(int serial) {
            if (serial < leastKept() || serial >= next) {
                return null;
            }
            return cells[serial & (CELLS - 1)];
        }

        void append(Entry entry, int reasons) {
            cells[next & (CELLS - 1)] = new Note(entry, reasons);
            next++;
        }
    }

    /** The reasons of a file's notes since its gathering was opened. */
    private static final class Gathering {
        final int file;
        int reasons;

        Gathering(int file) {
            this.file = file;
        }
    }

    /** The gatherings that are open, in the order in which they were opened. */
    private static final class Gatherings {
        private final ArrayList<Gathering> open;

        Gatherings() {
            open = new ArrayList<Gathering>();
        }

        int count() {
            return open.size();
        }

        Gathering first() {
            return open.isEmpty() ? null : open.get(0);
        }

        Gathering gatheringOf(int file) {
            for (int i = 0; i < open.size(); i++) {
                Gathering gathering = open.get(i);
                if (gathering.file == file) {
                    return gathering;
                }
            }
            return null;
        }

        /** The gathering that must be closed before a note of the file is written; null if none. */
        Gathering inTheWayOf(int file) {
            return open.size() < MOST_OPEN || gatheringOf(file) != null ? null : first();
        }

        /** Adds reasons to a file's gathering, opened if need be; answers all that it has then. */
        int gather(int file, int reasons) {
            Gathering gathering = gatheringOf(file);
            if (gathering == null) {
                gathering = new Gathering(file);
                open.add(gathering);
            }
            gathering.reasons |= reasons;
            return gathering.reasons;
        }

        void take(int file) {
            for (int i = 0; i < open.size(); i++) {
                if (open.get(i).file == file) {
                    open.remove(i);
                    return;
                }
            }
        }

        void forget() {
            open.clear();
        }

        /** Finds the gatherings that the kept notes leave open. */
        void recall(Ring ring) {
            open.clear();
            for (int serial = ring.leastKept(); serial < ring.nextSerial(); serial++) {
                Note note = ring.noteAt(serial);
                if (note == null) {
                    continue;
                }
                if (note.hasAny(CLOSED)) {
                    take(note.entry.number);
                } else {
                    gather(note.entry.number, note.reasons);
                }
            }
        }
    }

    /** A reader of notes and listings, and the follower that keeps a copy by them. */
    private static final class Subscriber {
        final FileTable copy;
        final int[] pageNumbers;
        int cursor;
        int mask;
        boolean listing;
        private int greatestShown;

        Subscriber() {
            copy = new FileTable(MOST_COPIED);
            pageNumbers = new int[] {NONE, NONE, NONE, NONE};
            cursor = 1;
            mask = ALL_REASONS;
        }

        void beginAnew(int newMask, Ring ring) {
            mask = newMask;
            cursor = ring.nextSerial();
            listing = false;
            for (int k = 0; k < PAGE_SIZE; k++) {
                pageNumbers[k] = NONE;
            }
        }

        /** Reads: the serial of the note, 0 when there is none, NONE when it is too late. */
        int takeNote(Ring ring, int wanted) {
            if (cursor < ring.leastKept()) {
                return NONE;
            }
            for (int serial = cursor; serial < ring.nextSerial(); serial++) {
                Note note = ring.noteAt(serial);
                if (note != null && note.hasAny(wanted)) {
                    cursor = serial + 1;
                    return serial;
                }
            }
            cursor = ring.nextSerial();
            return 0;
        }

        void beginListing(Ring ring) {
            listing = true;
            greatestShown = 0;
            cursor = ring.nextSerial();
        }

        /** Shows the next files, which ends the listing when they don't fill the page. */
        int showPage(FileTable files) {
            int count = 0;
            for (int k = 0; k < PAGE_SIZE; k++) {
                Entry entry = files.entryAbove(greatestShown);
                if (entry == null) {
                    pageNumbers[k] = NONE;
                } else {
                    pageNumbers[k] = entry.number;
                    greatestShown = entry.number;
                    count++;
                }
            }
            listing = count == PAGE_SIZE;
            return count;
        }

        /** One action of the follower; whether anything happened. */
        boolean act(Ring ring, FileTable files) {
            if (listing) {
                copyPage(files);
                return true;
            }
            int serial = takeNote(ring, ALL_REASONS);
            if (serial == NONE) {
                beginListing(ring);
                return true;
            }
            Note note = ring.noteAt(serial);
            if (note == null) {
                return false;
            }
            copyNote(note, files);
            return true;
        }

        private void copyPage(FileTable files) {
            int shownBefore = greatestShown;
            showPage(files);
            copy.dropRange(shownBefore, listing ? greatestShown : WITHOUT_END);
            for (int k = 0; k < PAGE_SIZE; k++) {
                copyAsItIs(pageNumbers[k], files);
            }
        }

        private void copyNote(Note note, FileTable files) {
            int file = note.entry.number;
            if (note.hasAny(CLOSED)) {
                copy.drop(file);
                copyAsItIs(file, files);
            } else if (note.hasAny(REMOVED)) {
                copy.drop(file);
            } else {
                copy.put(note.entry);
            }
        }

        private void copyAsItIs(int file, FileTable files) {
            Entry now = files.entryOf(file);
            if (now != null) {
                copy.put(now);
            }
        }
    }
}
