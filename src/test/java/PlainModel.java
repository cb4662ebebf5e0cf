import java.util.ArrayList;
import java.util.LinkedHashMap;
import java.util.List;
import java.util.Map;
import java.util.NoSuchElementException;
import java.util.TreeMap;

/**
 * The document written a second time, for tests: slow, with all notes ever written kept, and as
 * near to the document's words as can be. A call is a name and up to three numbers.
 */
final class PlainModel {
    private static final int NONE = -1;

    /** Stands for power that fails in the place of a write. */
    private static final class PowerFailure extends RuntimeException {
        private static final long serialVersionUID = 1L;
    }

    private static final class Reader {
        int cursor = 1;
        int mask = 127;
        Integer shownUpTo = null;
        List<Integer> page = List.of();
        final TreeMap<Integer, List<Integer>> copy = new TreeMap<>();
    }

    // A file: sort, parent, name, mark. A note: file, sort, parent, name, mark, reasons.
    private final TreeMap<Integer, List<Integer>> files = new TreeMap<>();
    private final List<List<Integer>> notes = new ArrayList<>();
    private final Map<Integer, Integer> gatherings = new LinkedHashMap<>();
    private final List<Reader> readers = List.of(new Reader(), new Reader(), new Reader());
    private int given = 0;
    private boolean on = true;
    private int left = NONE;

    long call(String name, int a, int b, int c) {
        switch (name) {
            case "make": return make(a, b, c);
            case "change": return change(a);
            case "rename": return rename(a, b, c) ? 1 : 0;
            case "remove": return remove(a) ? 1 : 0;
            case "close": return close(a) ? 1 : 0;
            case "open": return on ? gatherings.size() : 0;
            case "of": return item(files.get(a), b);
            case "find": return find(a, b);
            case "live": return files.size();
            case "tail": return tail();
            case "head": return head();
            case "note": return item(a >= tail() && a < head() ? notes.get(a - 1) : null, b);
            case "start": return start();
            case "isOn": return on ? 1 : 0;
            case "cutAfter": return cutAfter(a);
            default: return callOfReader(name, reader(a), b, c);
        }
    }

    private long callOfReader(String name, Reader r, int b, int c) {
        switch (name) {
            case "subscribe": return subscribe(r, b);
            case "cursor": return r.cursor;
            case "read": return read(r, r.mask);
            case "list": return list(r);
            case "page": return page(r);
            case "shown": return b >= 0 && b < r.page.size() ? r.page.get(b) : NONE;
            case "follow": return follow(r, b);
            case "copied": return copied(r, b, c);
            case "inStep": return r.copy.equals(files) ? 1 : 0;
            default: throw new AssertionError(name);
        }
    }

    private int head() {
        return notes.size() + 1;
    }

    private int tail() {
        return Math.max(1, head() - 16);
    }

    private Reader reader(int s) {
        if (s < 0 || s > 2) {
            throw new IndexOutOfBoundsException();
        }
        return readers.get(s);
    }

    private static int item(List<Integer> row, int what) {
        if (row == null) {
            throw new NoSuchElementException();
        }
        if (what < 0 || what >= row.size()) {
            throw new IndexOutOfBoundsException();
        }
        return row.get(what);
    }

    private int find(int parent, int name) {
        for (int file : files.keySet()) {
            if (files.get(file).get(1) == parent && files.get(file).get(2) == name) {
                return file;
            }
        }
        return NONE;
    }

    // Changes.

    private void needPower() {
        if (!on) {
            throw new IllegalStateException();
        }
    }

    private void needName(int name) {
        if (name == 0) {
            throw new IllegalArgumentException();
        }
    }

    private void needLiving(int file) {
        if (!files.containsKey(file)) {
            throw new NoSuchElementException();
        }
    }

    private static void refuseIf(boolean wrong) {
        if (wrong) {
            throw new UnsupportedOperationException();
        }
    }

    private void write(Runnable what) {
        if (left == 0) {
            on = false;
            throw new PowerFailure();
        }
        left = left == NONE ? NONE : left - 1;
        what.run();
    }

    private boolean inOneGo(Runnable writes) {
        try {
            writes.run();
            return true;
        } catch (PowerFailure e) {
            return false;
        }
    }

    private void addNote(int file, List<Integer> like, int reasons) {
        List<Integer> note = new ArrayList<>();
        note.add(file);
        note.addAll(like);
        note.add(reasons);
        notes.add(note);
    }

    private void addClosing(int file, int reasons) {
        addNote(file, files.getOrDefault(file, List.of(0, 0, 0, 0)), reasons | 64);
    }

    private void noteChange(int file, List<Integer> like, int reasons) {
        if (!gatherings.containsKey(file) && gatherings.size() == 3) {
            writeClosing(gatherings.keySet().iterator().next());
        }
        write(() -> {
            gatherings.merge(file, reasons, (x, y) -> x | y);
            addNote(file, like, gatherings.get(file));
        });
    }

    private void writeClosing(int file) {
        write(() -> addClosing(file, gatherings.remove(file)));
    }

    private int make(int parent, int folder, int name) {
        needPower();
        if (files.size() == 20) {
            throw new IllegalStateException();
        }
        needName(name);
        if (parent != 0) {
            needLiving(parent);
            refuseIf(files.get(parent).get(0) == 0);
        }
        refuseIf(find(parent, name) != NONE);
        int file = given + 1;
        List<Integer> like = List.of(folder, parent, name, 0);
        boolean done = inOneGo(() -> {
            noteChange(file, like, 1);
            write(() -> files.put(file, like));
        });
        given += done ? 1 : 0;
        return done ? file : -2;
    }

    private int change(int file) {
        needPower();
        needLiving(file);
        List<Integer> was = files.get(file);
        refuseIf(was.get(0) == 1);
        List<Integer> like = List.of(0, was.get(1), was.get(2), was.get(3) + 1);
        boolean done = inOneGo(() -> {
            noteChange(file, like, 2);
            write(() -> files.put(file, like));
        });
        return done ? like.get(3) : -2;
    }

    private boolean rename(int file, int parent, int name) {
        needPower();
        needName(name);
        needLiving(file);
        if (parent != 0) {
            needLiving(parent);
            refuseIf(files.get(parent).get(0) == 0);
        }
        for (int up = parent; up != 0; up = files.get(up).get(1)) {
            refuseIf(up == file);
        }
        refuseIf(find(parent, name) != NONE && find(parent, name) != file);
        List<Integer> was = files.get(file);
        List<Integer> like = List.of(was.get(0), parent, name, was.get(3));
        return !was.equals(like) && inOneGo(() -> {
            noteChange(file, was, 4);
            noteChange(file, like, 8 + (was.get(1) == parent ? 0 : 16));
            write(() -> files.put(file, like));
        });
    }

    private boolean remove(int file) {
        needPower();
        needLiving(file);
        for (List<Integer> other : files.values()) {
            refuseIf(other.get(1) == file);
        }
        return inOneGo(() -> {
            noteChange(file, files.get(file), 32);
            write(() -> files.remove(file));
        });
    }

    private boolean close(int file) {
        needPower();
        if (!gatherings.containsKey(file)) {
            throw new NoSuchElementException();
        }
        return inOneGo(() -> writeClosing(file));
    }

    // Power.

    private int cutAfter(int n) {
        if (n < NONE) {
            throw new IllegalArgumentException();
        }
        left = n;
        return 0;
    }

    private int start() {
        if (on) {
            return NONE;
        }
        on = true;
        left = NONE;
        gatherings.clear();
        TreeMap<Integer, Integer> fileByFirstNote = new TreeMap<>();
        Map<Integer, Integer> reasonsOfLatest = new LinkedHashMap<>();
        for (int file = 1; file <= given + 1; file++) {
            int latest = latestKept(file, 0);
            if (latest != 0 && (notes.get(latest - 1).get(5) & 64) == 0) {
                int behind = Math.max(tail() - 1, latestKept(file, 64));
                fileByFirstNote.put(firstBehind(file, behind), file);
                reasonsOfLatest.put(file, notes.get(latest - 1).get(5));
            }
        }
        for (int file : fileByFirstNote.values()) {
            addClosing(file, reasonsOfLatest.get(file));
        }
        return fileByFirstNote.size();
    }

    /** The serial of a file's latest kept note with the reasons; 0 if none. */
    private int latestKept(int file, int reasons) {
        for (int serial = head() - 1; serial >= tail(); serial--) {
            List<Integer> note = notes.get(serial - 1);
            if (note.get(0) == file && (note.get(5) & reasons) == reasons) {
                return serial;
            }
        }
        return 0;
    }

    private int firstBehind(int file, int behind) {
        int serial = behind + 1;
        while (notes.get(serial - 1).get(0) != file) {
            serial++;
        }
        return serial;
    }

    // Readers.

    private int subscribe(Reader r, int mask) {
        if (mask < 0 || mask > 127) {
            throw new IllegalArgumentException();
        }
        r.mask = mask;
        r.cursor = head();
        r.shownUpTo = null;
        r.page = List.of();
        return 0;
    }

    private int read(Reader r, int mask) {
        if (r.cursor < tail()) {
            return NONE;
        }
        while (r.cursor < head()) {
            int serial = r.cursor++;
            if ((notes.get(serial - 1).get(5) & mask) != 0) {
                return serial;
            }
        }
        return 0;
    }

    private int list(Reader r) {
        r.shownUpTo = 0;
        r.cursor = head();
        return 0;
    }

    private int page(Reader r) {
        if (r.shownUpTo == null) {
            throw new IllegalStateException();
        }
        List<Integer> page = new ArrayList<>(files.tailMap(r.shownUpTo, false).keySet());
        r.page = page.subList(0, Math.min(4, page.size()));
        r.shownUpTo = r.page.size() < 4 ? null : r.page.get(3);
        return r.page.size();
    }

    private int follow(Reader r, int n) {
        if (n < 0 || n > 40) {
            throw new IllegalArgumentException();
        }
        int happened = 0;
        for (int i = 0; i < n; i++) {
            happened += act(r) ? 1 : 0;
        }
        return happened;
    }

    private boolean act(Reader r) {
        if (r.shownUpTo != null) {
            int before = r.shownUpTo;
            page(r);
            int upTo = r.shownUpTo == null ? Integer.MAX_VALUE : r.shownUpTo;
            r.copy.subMap(before, false, upTo, true).clear();
            for (int file : r.page) {
                r.copy.put(file, files.get(file));
            }
            return true;
        }
        int serial = read(r, 127);
        if (serial == NONE) {
            list(r);
        } else if (serial > 0) {
            takeOver(r, notes.get(serial - 1));
        }
        return serial != 0;
    }

    private void takeOver(Reader r, List<Integer> note) {
        int file = note.get(0);
        boolean closed = (note.get(5) & 64) != 0;
        boolean removed = (note.get(5) & 32) != 0;
        r.copy.remove(file);
        if (closed && files.containsKey(file)) {
            r.copy.put(file, files.get(file));
        } else if (!closed && !removed) {
            r.copy.put(file, note.subList(1, 5));
        }
    }

    private int copied(Reader r, int file, int what) {
        if (what < 0 || what > 3) {
            throw new IndexOutOfBoundsException();
        }
        return item(r.copy.get(file), what);
    }
}
