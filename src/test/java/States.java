/** Objects in the states that many edges are looked at from. */
final class States {
    private States() {
    }

    /**
     * Folder 1 in the root, file 2 in the root, file 3 and folder 4 in folder 1, file 5 made and
     * removed; the gatherings of 3, 4 and 5 open; subscriber 0 has read, a listing of subscriber 1
     * goes on, subscriber 2 has followed; power fails after 7 writes.
     */
    static NotedVolume busy() {
        NotedVolume v = new NotedVolume();
        v.make(0, true, 1);
        v.make(0, false, 2);
        v.make(1, false, 3);
        v.make(1, true, 4);
        v.read(0);
        v.list(1);
        v.page(1);
        v.make(0, false, 5);
        v.remove(5);
        v.follow(2, 5);
        v.cutAfter(7);
        return v;
    }

    /** As busy, but power has failed between the note of a change of file 3 and the change. */
    static NotedVolume off() {
        NotedVolume v = busy();
        v.cutAfter(1);
        v.change(3);
        return v;
    }

    /** 20 files live: folder 1, and the files 2 to 20 beside it, each named as it is numbered. */
    static NotedVolume full() {
        NotedVolume v = new NotedVolume();
        for (int file = 1; file <= 20; file++) {
            v.make(0, file == 1, file);
        }
        v.cutAfter(7);
        return v;
    }

    /** The files 1 to n in the root, each named as it is numbered, none with a gathering. */
    static NotedVolume closed(int n) {
        NotedVolume v = new NotedVolume();
        for (int file = 1; file <= n; file++) {
            v.make(0, false, file);
            v.close(file);
        }
        return v;
    }

    /** File 1 and n notes, of its making and of changes; its mark is n - 1. */
    static NotedVolume notes(int n) {
        NotedVolume v = new NotedVolume();
        if (n > 0) {
            v.make(0, false, 1);
        }
        changes(v, n - 1);
        return v;
    }

    static void changes(NotedVolume v, int n) {
        for (int i = 0; i < n; i++) {
            v.change(1);
        }
    }

    /** Power fails at once, by a change of a file that lives and is no folder. */
    static void fail(NotedVolume v, int file) {
        v.cutAfter(0);
        v.change(file);
    }
}
