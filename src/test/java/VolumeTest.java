import java.util.NoSuchElementException;

/** Promises 1 to 5 and 8 to 10: the files and folders themselves. */
final class VolumeTest {
    private static final int MIN = Integer.MIN_VALUE;
    private static final int MAX = Integer.MAX_VALUE;

    public static void main(String[] args) {
        newObject();
        make();
        makeRefuses();
        makeAtTwentyLive();
        change();
        changeRefuses();
        rename();
        renameRefuses();
        renameIntoItself();
        remove();
        removeRefuses();
        ofAFile();
        find();
        numbersAreNeverGivenTwice();
        Check.end("VolumeTest");
    }

    private static void newObject() {
        NotedVolume v = new NotedVolume();
        Check.same("live", 0, v.live());
        Check.same("open", 0, v.open());
        Check.same("head", 1, v.head());
        Check.same("tail", 1, v.tail());
        Check.yes("isOn", v.isOn());
        Check.same("start", NotedVolume.NONE, v.start());
        for (int s = 0; s < 3; s++) {
            Check.same("cursor", 1, v.cursor(s));
            Check.same("shown", NotedVolume.NONE, v.shown(s, 0));
            Check.same("read", 0, v.read(s));
            Check.yes("inStep", v.inStep(s));
        }
    }

    private static void make() {
        NotedVolume v = new NotedVolume();
        Check.same("make", 1, v.make(0, true, 5));
        Check.same("make", 2, v.make(1, false, 5));
        Check.same("make", 3, v.make(0, false, MIN));
        Check.same("make", 4, v.make(0, true, -1));
        Check.same("live", 4, v.live());
        looksLike(v, 1, 1, 0, 5, 0);
        looksLike(v, 2, 0, 1, 5, 0);
        looksLike(v, 3, 0, 0, MIN, 0);
        looksLike(v, 4, 1, 0, -1, 0);
    }

    private static void makeRefuses() {
        NotedVolume v = new NotedVolume();
        v.make(0, true, 1);
        v.make(0, false, 2);
        int head = v.head();
        Check.fails("name 0", IllegalArgumentException.class, () -> v.make(0, false, 0));
        Check.fails("name 0 before parent", IllegalArgumentException.class, () -> v.make(9, false, 0));
        Check.fails("no parent", NoSuchElementException.class, () -> v.make(3, false, 1));
        Check.fails("no parent", NoSuchElementException.class, () -> v.make(-1, false, 1));
        Check.fails("no parent", NoSuchElementException.class, () -> v.make(MIN, true, 1));
        Check.fails("no folder", UnsupportedOperationException.class, () -> v.make(2, false, 1));
        Check.fails("name taken", UnsupportedOperationException.class, () -> v.make(0, true, 2));
        Check.fails("name taken", UnsupportedOperationException.class, () -> v.make(0, false, 1));
        Check.same("head", head, v.head());
        Check.same("live", 2, v.live());
        Check.same("make", 3, v.make(1, false, 2));
    }

    private static void makeAtTwentyLive() {
        NotedVolume v = new NotedVolume();
        for (int name = 1; name <= 20; name++) {
            Check.same("make", name, v.make(0, name == 1, name));
        }
        Check.same("live", 20, v.live());
        int head = v.head();
        Check.fails("20 live", IllegalStateException.class, () -> v.make(0, false, 21));
        Check.fails("20 live first", IllegalStateException.class, () -> v.make(99, false, 0));
        Check.same("head", head, v.head());
        Check.yes("remove", v.remove(7));
        Check.same("make", 21, v.make(1, false, 7));
        Check.fails("20 live", IllegalStateException.class, () -> v.make(0, false, 22));
    }

    private static void change() {
        NotedVolume v = new NotedVolume();
        v.make(0, false, 1);
        for (int mark = 1; mark <= 5; mark++) {
            Check.same("change", mark, v.change(1));
            looksLike(v, 1, 0, 0, 1, mark);
        }
    }

    private static void changeRefuses() {
        NotedVolume v = new NotedVolume();
        v.make(0, true, 1);
        v.make(0, false, 2);
        v.remove(2);
        int head = v.head();
        Check.fails("the root", NoSuchElementException.class, () -> v.change(0));
        Check.fails("not yet made", NoSuchElementException.class, () -> v.change(3));
        Check.fails("removed", NoSuchElementException.class, () -> v.change(2));
        Check.fails("below 0", NoSuchElementException.class, () -> v.change(MIN));
        Check.fails("a folder", UnsupportedOperationException.class, () -> v.change(1));
        Check.same("head", head, v.head());
    }

    private static void rename() {
        NotedVolume v = new NotedVolume();
        v.make(0, true, 1);
        v.make(0, false, 2);
        v.change(2);
        Check.yes("another name", v.rename(2, 0, 3));
        looksLike(v, 2, 0, 0, 3, 1);
        Check.yes("another parent", v.rename(2, 1, 3));
        looksLike(v, 2, 0, 1, 3, 1);
        Check.yes("both others", v.rename(2, 0, 9));
        looksLike(v, 2, 0, 0, 9, 1);
        int head = v.head();
        Check.no("none other", v.rename(2, 0, 9));
        Check.same("head", head, v.head());
        Check.same("its old name is free", 3, v.make(0, false, 2));
        Check.yes("a folder", v.rename(1, 0, 30));
        looksLike(v, 1, 1, 0, 30, 0);
        Check.same("live", 3, v.live());
    }

    private static void renameRefuses() {
        NotedVolume v = new NotedVolume();
        v.make(0, true, 1);
        v.make(0, false, 2);
        v.make(1, false, 3);
        int head = v.head();
        Check.fails("name 0", IllegalArgumentException.class, () -> v.rename(2, 0, 0));
        Check.fails("name 0 before file", IllegalArgumentException.class, () -> v.rename(9, 0, 0));
        Check.fails("the root", NoSuchElementException.class, () -> v.rename(0, 1, 7));
        Check.fails("no file", NoSuchElementException.class, () -> v.rename(4, 0, 7));
        Check.fails("no file before no folder", NoSuchElementException.class, () -> v.rename(4, 2, 7));
        Check.fails("no parent", NoSuchElementException.class, () -> v.rename(2, 4, 7));
        Check.fails("no parent", NoSuchElementException.class, () -> v.rename(2, -1, 7));
        Check.fails("no folder", UnsupportedOperationException.class, () -> v.rename(3, 2, 7));
        Check.fails("itself, no folder", UnsupportedOperationException.class, () -> v.rename(2, 2, 7));
        Check.fails("name taken", UnsupportedOperationException.class, () -> v.rename(2, 0, 1));
        Check.fails("name taken there", UnsupportedOperationException.class, () -> v.rename(2, 1, 3));
        Check.same("head", head, v.head());
        looksLike(v, 2, 0, 0, 2, 0);
    }

    private static void renameIntoItself() {
        NotedVolume v = new NotedVolume();
        v.make(0, true, 1);
        for (int folder = 1; folder < 20; folder++) {
            v.make(folder, true, 1);
        }
        Check.fails("itself", UnsupportedOperationException.class, () -> v.rename(1, 1, 2));
        Check.fails("in itself", UnsupportedOperationException.class, () -> v.rename(1, 2, 2));
        Check.fails("19 deep", UnsupportedOperationException.class, () -> v.rename(1, 20, 2));
        Check.fails("from the middle", UnsupportedOperationException.class, () -> v.rename(10, 20, 2));
        Check.yes("upwards", v.rename(20, 5, 2));
        Check.yes("to the root", v.rename(10, 0, 2));
        Check.yes("now it lies beside", v.rename(1, 19, 2));
        Check.same("parent", 19, v.of(1, 1));
        Check.fails("round about", UnsupportedOperationException.class, () -> v.rename(10, 1, 5));
    }

    private static void remove() {
        NotedVolume v = new NotedVolume();
        v.make(0, true, 1);
        v.make(1, false, 2);
        Check.yes("remove", v.remove(2));
        Check.same("live", 1, v.live());
        Check.same("find", NotedVolume.NONE, v.find(1, 2));
        Check.yes("remove", v.remove(1));
        Check.same("live", 0, v.live());
        Check.same("the gatherings stay open", 2, v.open());
    }

    private static void removeRefuses() {
        NotedVolume v = new NotedVolume();
        v.make(0, true, 1);
        v.make(1, false, 2);
        int head = v.head();
        Check.fails("files in it", UnsupportedOperationException.class, () -> v.remove(1));
        Check.fails("the root", NoSuchElementException.class, () -> v.remove(0));
        Check.fails("no file", NoSuchElementException.class, () -> v.remove(3));
        Check.fails("no file", NoSuchElementException.class, () -> v.remove(MAX));
        Check.same("head", head, v.head());
        v.remove(2);
        Check.fails("twice", NoSuchElementException.class, () -> v.remove(2));
        v.make(0, true, 3);
        v.rename(1, 3, 1);
        Check.fails("an older file in it", UnsupportedOperationException.class, () -> v.remove(3));
    }

    private static void ofAFile() {
        NotedVolume v = new NotedVolume();
        v.make(0, false, 1);
        v.make(0, false, 2);
        v.remove(2);
        Check.fails("what 4", IndexOutOfBoundsException.class, () -> v.of(1, 4));
        Check.fails("what -1", IndexOutOfBoundsException.class, () -> v.of(1, -1));
        Check.fails("the root", NoSuchElementException.class, () -> v.of(0, 0));
        Check.fails("removed", NoSuchElementException.class, () -> v.of(2, 0));
        Check.fails("no file before no what", NoSuchElementException.class, () -> v.of(2, 4));
    }

    private static void find() {
        NotedVolume v = new NotedVolume();
        v.make(0, true, 7);
        v.make(1, false, 7);
        Check.same("find", 1, v.find(0, 7));
        Check.same("find", 2, v.find(1, 7));
        Check.same("no such name", NotedVolume.NONE, v.find(0, 8));
        Check.same("no name", NotedVolume.NONE, v.find(0, 0));
        Check.same("no folder", NotedVolume.NONE, v.find(2, 7));
        Check.same("no parent", NotedVolume.NONE, v.find(9, 7));
        Check.same("no parent", NotedVolume.NONE, v.find(-1, 7));
        v.rename(2, 0, 8);
        Check.same("moved away", NotedVolume.NONE, v.find(1, 7));
        Check.same("moved here", 2, v.find(0, 8));
    }

    private static void numbersAreNeverGivenTwice() {
        NotedVolume v = new NotedVolume();
        for (int i = 1; i <= 200; i++) {
            Check.same("make", i, v.make(0, false, 1));
            Check.yes("remove", v.remove(i));
        }
        Check.same("live", 0, v.live());
    }

    private static void looksLike(NotedVolume v, int file, int sort, int parent, int name, int mark) {
        Check.same("sort of " + file, sort, v.of(file, 0));
        Check.same("parent of " + file, parent, v.of(file, 1));
        Check.same("name of " + file, name, v.of(file, 2));
        Check.same("mark of " + file, mark, v.of(file, 3));
    }
}
