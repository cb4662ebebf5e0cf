import java.util.NoSuchElementException;

/** The edges of promise 4, and of 'Terms' for renaming: a method a sentence, or a part of one. */
final class RenameEdgesTest {
    private static final int MIN = Integer.MIN_VALUE;
    private static final int MAX = Integer.MAX_VALUE;
    private static final int NONE = NotedVolume.NONE;
    private static final int[] NO_FILES = {MIN, -2, -1, 5, 6, 7, 20, MAX};

    public static void main(String[] args) {
        anotherName();
        anotherParent();
        bothOthers();
        movedThereAndBack();
        fromBeforeTo();
        bothTheSame();
        theSameOnAnEdgeOfPower();
        falseWhenPowerFails();
        withoutPower();
        nameZero();
        noFile();
        noParent();
        parentIsNoFolder();
        parentIsTheFileItself();
        parentLiesInTheFile();
        parentLiesInTheFileHoweverDeep();
        parentHasAnotherOfTheName();
        Check.end("RenameEdgesTest");
    }

    private static void anotherName() {
        Check.about("RENAMING (another name, perhaps another parent, at least one of both being another one)");
        NotedVolume v = States.busy();
        v.close(3);
        int head = v.head();
        Check.yes("rename", v.rename(3, 1, 9));
        Check.note(v, head, 3, 0, 1, 3, 0, 4);
        Check.note(v, head + 1, 3, 0, 1, 9, 0, 4 + 8);
        Check.same("two notes", head + 2, v.head());
        Check.same("find", 3, v.find(1, 9));
        Check.same("find", NONE, v.find(1, 3));
    }

    private static void anotherParent() {
        Check.about("and MOVED when the parent is another one");
        NotedVolume v = States.busy();
        v.close(3);
        int head = v.head();
        Check.yes("rename", v.rename(3, 4, 3));
        Check.note(v, head, 3, 0, 1, 3, 0, 4);
        Check.note(v, head + 1, 3, 0, 4, 3, 0, 4 + 8 + 16);
        Check.same("two notes", head + 2, v.head());
        Check.same("find", 3, v.find(4, 3));
        Check.same("find", NONE, v.find(1, 3));
    }

    private static void bothOthers() {
        Check.about("and MOVED when the parent is another one");
        NotedVolume v = States.busy();
        v.close(4);
        int head = v.head();
        Check.yes("rename", v.rename(4, 0, 9));
        Check.note(v, head, 4, 1, 1, 4, 0, 4);
        Check.note(v, head + 1, 4, 1, 0, 9, 0, 4 + 8 + 16);
        Check.same("find", 4, v.find(0, 9));
    }

    private static void movedThereAndBack() {
        Check.about("and MOVED when the parent is another one");
        NotedVolume v = new NotedVolume();
        v.make(0, true, 1);
        v.make(0, false, 2);
        v.close(2);
        v.rename(2, 1, 2);
        v.close(2);
        v.rename(2, 1, 3);
        Check.same("not moved, in a new gathering", 4 + 8, v.note(v.head() - 1, 5));
        v.rename(2, 0, 3);
        Check.same("from, with what was gathered", 4 + 8, v.note(v.head() - 2, 5));
        Check.same("moved", 4 + 8 + 16, v.note(v.head() - 1, 5));
        v.rename(2, 0, 4);
        Check.same("gathered, though not moved", 4 + 8 + 16, v.note(v.head() - 2, 5));
    }

    private static void fromBeforeTo() {
        Check.about("RENAMED FROM, with parent and name from before, then RENAMED TO");
        NotedVolume v = new NotedVolume();
        v.make(0, true, 5);
        v.make(1, false, 6);
        v.change(2);
        v.close(2);
        v.rename(2, 0, 7);
        Check.note(v, 5, 2, 0, 1, 6, 1, 4);
        Check.note(v, 6, 2, 0, 0, 7, 1, 4 + 8 + 16);
        v.rename(1, 0, 6);
        Check.note(v, 7, 1, 1, 0, 5, 0, 1 + 4);
        Check.note(v, 8, 1, 1, 0, 6, 0, 1 + 4 + 8);
        Check.same("head", 9, v.head());
    }

    private static void bothTheSame() {
        Check.about("or when both are those that it has (nothing is written then)");
        for (int i = 1; i <= 4; i++) {
            int file = i;
            int parent = i <= 2 ? 0 : 1;
            Twins.unchanged("rename " + i, 0, States::busy, v -> v.rename(file, parent, file) ? 1 : 0);
        }
        NotedVolume v = States.closed(1);
        v.rename(1, 0, 9);
        v.close(1);
        Check.no("the ones that it was given", v.rename(1, 0, 9));
        Check.same("no gathering", 0, v.open());
        Check.yes("the ones that it had before", v.rename(1, 0, 1));
    }

    private static void theSameOnAnEdgeOfPower() {
        Check.about("or when both are those that it has (nothing is written then)");
        NotedVolume v = States.busy();
        v.cutAfter(0);
        Check.no("rename", v.rename(2, 0, 2));
        Check.yes("power has not failed", v.isOn());
        Check.same("open", 3, v.open());
    }

    private static void falseWhenPowerFails() {
        Check.about("A file gets a parent and a name: true; false when power fails");
        for (int n = 0; n <= 4; n++) {
            NotedVolume v = States.busy();
            int head = v.head();
            v.cutAfter(n);
            Check.yes("rename after " + n, v.rename(2, 1, 9) == (n == 4));
            Check.yes("isOn", v.isOn() == (n == 4));
            Check.same("parent", n == 4 ? 1 : 0, v.of(2, 1));
            Check.same("name", n == 4 ? 9 : 2, v.of(2, 2));
            Check.same("notes, with one for room", head + Math.min(n, 3), v.head());
        }
    }

    private static void withoutPower() {
        Check.about("IllegalStateException when power is off");
        Twins.refused("rename", IllegalStateException.class, States::off, v -> v.rename(2, 1, 9));
        Twins.refused("the same", IllegalStateException.class, States::off, v -> v.rename(2, 0, 2));
        Twins.refused("name 0", IllegalStateException.class, States::off, v -> v.rename(2, 0, 0));
        Twins.refused("no file", IllegalStateException.class, States::off, v -> v.rename(9, 0, 9));
        Twins.refused("itself", IllegalStateException.class, States::off, v -> v.rename(1, 1, 9));
    }

    private static void nameZero() {
        Check.about("IllegalArgumentException when name is 0");
        Twins.refused("rename", IllegalArgumentException.class, States::busy, v -> v.rename(2, 0, 0));
        Twins.refused("no file", IllegalArgumentException.class, States::busy, v -> v.rename(9, 0, 0));
        Twins.refused("no parent", IllegalArgumentException.class, States::busy, v -> v.rename(2, 9, 0));
        Twins.refused("itself", IllegalArgumentException.class, States::busy, v -> v.rename(1, 1, 0));
    }

    private static void noFile() {
        Check.about("NoSuchElementException when the file doesn't live, or the parent neither lives nor is the root");
        for (int file : NO_FILES) {
            Twins.refused("rename " + file, NoSuchElementException.class, States::busy,
                    v -> v.rename(file, 0, 9));
        }
        Twins.refused("in no folder", NoSuchElementException.class, States::busy, v -> v.rename(5, 2, 9));
        Twins.refused("in itself", NoSuchElementException.class, States::busy, v -> v.rename(5, 5, 9));
        Twins.refused("name taken", NoSuchElementException.class, States::busy, v -> v.rename(9, 0, 1));
    }

    private static void noParent() {
        Check.about("NoSuchElementException when the file doesn't live, or the parent neither lives nor is the root");
        for (int parent : NO_FILES) {
            Twins.refused("into " + parent, NoSuchElementException.class, States::busy,
                    v -> v.rename(2, parent, 9));
        }
    }

    private static void parentIsNoFolder() {
        Check.about("UnsupportedOperationException when that is no folder");
        Twins.refused("a file", UnsupportedOperationException.class, States::busy, v -> v.rename(3, 2, 9));
        Twins.refused("a folder", UnsupportedOperationException.class, States::busy, v -> v.rename(4, 3, 4));
    }

    private static void parentIsTheFileItself() {
        Check.about("is the file itself or lies in it (however deep)");
        Twins.refused("a folder", UnsupportedOperationException.class, States::busy, v -> v.rename(1, 1, 9));
        Twins.refused("an empty one", UnsupportedOperationException.class, States::busy, v -> v.rename(4, 4, 4));
        Twins.refused("a file", UnsupportedOperationException.class, States::busy, v -> v.rename(2, 2, 2));
    }

    private static void parentLiesInTheFile() {
        Check.about("is the file itself or lies in it (however deep)");
        Twins.refused("in it", UnsupportedOperationException.class, States::busy, v -> v.rename(1, 4, 9));
        NotedVolume v = States.busy();
        v.cutAfter(NONE);
        v.rename(4, 0, 4);
        Check.yes("beside it, it may", v.rename(1, 4, 9));
        Check.fails("and not back", UnsupportedOperationException.class, () -> v.rename(4, 1, 9));
        Check.yes("to the root, it may", v.rename(1, 0, 1));
        Check.yes("and now back", v.rename(4, 1, 9));
        Check.yes("its own folder, by another name", v.rename(4, 1, 8));
    }

    private static void parentLiesInTheFileHoweverDeep() {
        Check.about("is the file itself or lies in it (however deep)");
        NotedVolume v = new NotedVolume();
        for (int folder = 0; folder < 20; folder++) {
            v.make(folder, true, folder + 1);
        }
        int head = v.head();
        for (int outer = 1; outer <= 19; outer++) {
            int file = outer;
            Check.fails(outer + " into 20", UnsupportedOperationException.class, () -> v.rename(file, 20, 50));
            Check.fails("1 into " + outer, UnsupportedOperationException.class, () -> v.rename(1, file, 50));
        }
        Check.same("nothing was written", head, v.head());
        Check.yes("the deepest to the root", v.rename(20, 0, 50));
        Check.yes("the outermost into it", v.rename(1, 20, 50));
        Check.fails("round about", UnsupportedOperationException.class, () -> v.rename(20, 19, 1));
        Check.yes("one level up", v.rename(19, 17, 50));
    }

    private static void parentHasAnotherOfTheName() {
        Check.about("or has another file of this name");
        Twins.refused("in its folder", UnsupportedOperationException.class, States::busy, v -> v.rename(3, 1, 4));
        Twins.refused("in the root", UnsupportedOperationException.class, States::busy, v -> v.rename(3, 0, 2));
        Twins.refused("in another", UnsupportedOperationException.class, States::busy, v -> v.rename(2, 1, 3));
        NotedVolume v = States.busy();
        v.cutAfter(NONE);
        Check.yes("only its own folder has it", v.rename(3, 0, 4));
        Check.yes("one that is gone had it", v.rename(2, 0, 5));
        Check.yes("one that was renamed had it", v.rename(3, 0, 2));
    }
}
