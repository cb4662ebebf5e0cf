import java.util.NoSuchElementException;

/** The edges that 'Terms' names for files, and promises 1, 2, 3, 5, 8, 9, 10: a method a sentence. */
final class FileEdgesTest {
    private static final int MIN = Integer.MIN_VALUE;
    private static final int MAX = Integer.MAX_VALUE;
    private static final int NONE = NotedVolume.NONE;
    private static final int CUT = NotedVolume.CUT;
    private static final int[] NO_FILES = {MIN, -2, -1, 5, 6, 7, 20, MAX};

    public static void main(String[] args) {
        newObject();
        numbersFromOneOn();
        numbersNeverTwice();
        theRootIsAlwaysThere();
        theRootDoesNotLive();
        sortIsOneOrZero();
        parentIsAFolder();
        anyNameButZero();
        markAtFirstZero();
        markWraps();
        noTwoOfAName();
        namesAreFreeAgain();
        atMostTwentyLive();
        foldersCountAmongTheTwenty();
        aCutCountsNotAmongTheTwenty();
        makeAnswersItsNumberOrCut();
        makeWithoutPower();
        makeOfTheTwentyFirst();
        makeWithNameZero();
        makeWithoutParent();
        makeInNoFolder();
        makeOfANameThatIsThere();
        changeIsOneMore();
        changeWithoutPower();
        changeOfNoFile();
        changeOfAFolder();
        removeGoes();
        removeWithoutPower();
        removeOfNoFile();
        removeOfAFolderWithFiles();
        ofEachItem();
        ofNoFile();
        ofNoSuchWhat();
        findNone();
        liveCounts();
        theLastOf512Calls();
        Check.end("FileEdgesTest");
    }

    private static void newObject() {
        Check.about("Only the root; no notes; power is on.");
        NotedVolume v = new NotedVolume();
        Check.same("live", 0, v.live());
        for (int file = -1; file <= 21; file++) {
            int number = file;
            Check.fails("of " + file, NoSuchElementException.class, () -> v.of(number, 0));
        }
        Check.same("head", 1, v.head());
        Check.same("tail", 1, v.tail());
        Check.fails("note 1", NoSuchElementException.class, () -> v.note(1, 0));
        Check.fails("note 0", NoSuchElementException.class, () -> v.note(0, 0));
        Check.same("open", 0, v.open());
        Check.yes("isOn", v.isOn());
        Check.same("made in the root", 1, v.make(0, false, 1));
    }

    private static void numbersFromOneOn() {
        Check.about("FILES have numbers from 1 on, that are never given twice");
        NotedVolume v = new NotedVolume();
        Check.same("the first, a file", 1, v.make(0, false, 9));
        Check.same("a folder", 2, v.make(0, true, 8));
        Check.same("in the folder", 3, v.make(2, false, 9));
        NotedVolume w = new NotedVolume();
        Check.same("another object's first, a folder", 1, w.make(0, true, 9));
    }

    private static void numbersNeverTwice() {
        Check.about("FILES have numbers from 1 on, that are never given twice");
        NotedVolume v = States.closed(3);
        v.remove(3);
        Check.same("behind the removal of the latest", 4, v.make(0, false, 3));
        v.remove(1);
        v.remove(2);
        v.remove(4);
        Check.same("behind the removal of all", 5, v.make(0, false, 1));
        v.remove(5);
        v.close(5);
        Check.same("behind its closing", 6, v.make(0, true, 1));
        v.cutAfter(0);
        v.remove(6);
        v.start();
        v.remove(6);
        Check.same("behind a start", 7, v.make(0, true, 1));
    }

    private static void theRootIsAlwaysThere() {
        Check.about("the ROOT, 0, is a folder that is always there");
        NotedVolume v = States.full();
        v.cutAfter(NONE);
        Check.yes("into folder 1", v.rename(2, 1, 2));
        Check.yes("to the root, when 20 live", v.rename(2, 0, 30));
        for (int file = 20; file >= 1; file--) {
            v.remove(file);
        }
        Check.same("made in the empty volume", 21, v.make(0, true, 1));
        v.cutAfter(0);
        Check.no("power fails", v.remove(21));
        Check.same("found in it without power", 21, v.find(0, 1));
        v.start();
        Check.same("made in it behind a start", 22, v.make(0, false, 2));
    }

    private static void theRootDoesNotLive() {
        Check.about("At most 20 files LIVE at a time (the root not counted).");
        Twins.refused("of(0, 0)", NoSuchElementException.class, States::busy, v -> v.of(0, 0));
        Twins.refused("change(0)", NoSuchElementException.class, States::busy, v -> v.change(0));
        Twins.refused("rename(0, 4, 9)", NoSuchElementException.class, States::busy, v -> v.rename(0, 4, 9));
        Twins.refused("rename(0, 0, 9)", NoSuchElementException.class, States::busy, v -> v.rename(0, 0, 9));
        Twins.refused("remove(0)", NoSuchElementException.class, States::busy, v -> v.remove(0));
        Twins.refused("remove(0)", NoSuchElementException.class, NotedVolume::new, v -> v.remove(0));
    }

    private static void sortIsOneOrZero() {
        Check.about("A file is a folder or not (its SORT, 1 or 0)");
        NotedVolume v = States.busy();
        Check.same("a folder", 1, v.of(1, 0));
        Check.same("a file", 0, v.of(2, 0));
        Check.same("a note of a folder", 1, v.note(1, 1));
        Check.same("a note of a file", 0, v.note(2, 1));
        v.rename(4, 0, 9);
        v.rename(2, 4, 9);
        Check.same("a renamed folder", 1, v.of(4, 0));
        Check.same("a renamed file", 0, v.of(2, 0));
    }

    private static void parentIsAFolder() {
        Check.about("has a PARENT (a folder)");
        NotedVolume v = States.busy();
        Check.same("the root", 0, v.of(1, 1));
        Check.same("a folder", 1, v.of(4, 1));
        Check.same("in a folder in a folder", 6, v.make(4, true, 9));
        Check.same("its parent", 4, v.of(6, 1));
        v.rename(6, 0, 9);
        Check.same("moved to the root", 0, v.of(6, 1));
    }

    private static void anyNameButZero() {
        Check.about("a NAME (an int but 0)");
        int[] names = {MIN, -2, -1, 1, MAX};
        NotedVolume v = new NotedVolume();
        for (int i = 0; i < names.length; i++) {
            Check.same("make " + names[i], i + 1, v.make(0, false, names[i]));
            Check.same("name", names[i], v.of(i + 1, 2));
            Check.same("name in its note", names[i], v.note(v.head() - 1, 3));
        }
        for (int i = 0; i < names.length; i++) {
            Check.same("find " + names[i], i + 1, v.find(0, names[i]));
        }
        v.make(0, true, 7);
        for (int name : names) {
            Check.yes("rename to " + name, v.rename(1, 6, name));
            Check.same("name", name, v.of(1, 2));
        }
    }

    private static void markAtFirstZero() {
        Check.about("a MARK (an int that wraps, at first 0)");
        NotedVolume v = new NotedVolume();
        v.make(0, false, 1);
        v.make(0, true, 2);
        Check.same("a file's", 0, v.of(1, 3));
        Check.same("a folder's", 0, v.of(2, 3));
        v.change(1);
        v.change(1);
        v.remove(1);
        v.make(0, false, 1);
        Check.same("one of the name of one that is gone", 0, v.of(3, 3));
        v.cutAfter(1);
        v.make(0, false, 4);
        v.start();
        v.make(0, false, 4);
        Check.same("one of a number that was cut", 0, v.of(4, 3));
    }

    /** No 512 calls reach this edge, so it is set from inside, where the inside is known. */
    private static void markWraps() {
        Check.about("a MARK (an int that wraps, at first 0)");
        NotedVolume v = States.closed(1);
        v.subscribe(0, 127);
        if (!Inside.setMark(v, 1, MAX)) {
            System.out.println("FileEdgesTest: the mark's wrapping can't be looked at here");
            return;
        }
        Check.same("behind the greatest", MIN, v.change(1));
        Check.same("of", MIN, v.of(1, 3));
        Check.same("its note", MIN, v.note(v.head() - 1, 4));
        Check.same("next", MIN + 1, v.change(1));
        v.follow(0, 40);
        Check.same("copied", MIN + 1, v.copied(0, 1, 3));
        Inside.setMark(v, 1, -3);
        Check.about("(A CUT can't be told from a mark of -2.)");
        Check.same("change", CUT, v.change(1));
        Check.yes("isOn", v.isOn());
        Check.same("of", -2, v.of(1, 3));
        Check.same("change", -1, v.change(1));
        Check.same("change", 0, v.change(1));
    }

    private static void noTwoOfAName() {
        Check.about("In one folder no two files have the same name.");
        NotedVolume v = States.busy();
        Check.fails("a file's name", UnsupportedOperationException.class, () -> v.make(0, true, 2));
        Check.fails("a folder's name", UnsupportedOperationException.class, () -> v.make(0, false, 1));
        Check.fails("in a folder", UnsupportedOperationException.class, () -> v.make(1, false, 3));
        Check.fails("by renaming", UnsupportedOperationException.class, () -> v.rename(2, 0, 1));
        Check.fails("by moving", UnsupportedOperationException.class, () -> v.rename(2, 1, 3));
        v.cutAfter(NONE);
        Check.same("in another folder it may", 6, v.make(1, false, 2));
        Check.same("in an empty folder it may", 7, v.make(4, false, 4));
        Check.yes("in another folder it may", v.rename(3, 0, 3));
        Check.same("find", 2, v.find(0, 2));
        Check.same("find", 6, v.find(1, 2));
    }

    private static void namesAreFreeAgain() {
        Check.about("In one folder no two files have the same name.");
        NotedVolume v = States.closed(2);
        v.remove(1);
        Check.same("the name of one that is gone", 3, v.make(0, false, 1));
        v.rename(2, 0, 9);
        Check.same("the name of one that was renamed", 4, v.make(0, false, 2));
        v.make(0, true, 5);
        v.rename(4, 5, 2);
        Check.same("the name of one that was moved", 6, v.make(0, false, 2));
        v.cutAfter(1);
        v.make(0, false, 7);
        v.start();
        Check.same("the name of one that was cut", 7, v.make(0, true, 7));
        v.cutAfter(2);
        v.rename(3, 0, 8);
        v.start();
        Check.same("the name that a cut renaming did not give", 8, v.make(0, false, 8));
        Check.fails("the one that it kept", UnsupportedOperationException.class, () -> v.make(0, false, 1));
    }

    private static void atMostTwentyLive() {
        Check.about("At most 20 files LIVE at a time (the root not counted).");
        NotedVolume v = new NotedVolume();
        for (int file = 1; file <= 20; file++) {
            Check.same("make", file, v.make(0, false, file));
            Check.same("live", file, v.live());
        }
        Check.fails("one more", IllegalStateException.class, () -> v.make(0, false, 21));
        Check.same("live", 20, v.live());
        v.remove(20);
        Check.same("in place of one that is gone", 21, v.make(0, false, 20));
        Check.fails("one more", IllegalStateException.class, () -> v.make(0, false, 22));
        v.remove(1);
        v.remove(2);
        Check.same("make", 22, v.make(0, false, 1));
        Check.same("make", 23, v.make(0, false, 2));
        Check.fails("one more", IllegalStateException.class, () -> v.make(0, false, 24));
    }

    private static void foldersCountAmongTheTwenty() {
        Check.about("At most 20 files LIVE at a time (the root not counted).");
        NotedVolume v = new NotedVolume();
        for (int folder = 0; folder < 20; folder++) {
            Check.same("make", folder + 1, v.make(folder, true, 1));
        }
        Check.same("live", 20, v.live());
        Check.fails("in the deepest", IllegalStateException.class, () -> v.make(20, false, 1));
        Check.fails("in the root", IllegalStateException.class, () -> v.make(0, false, 2));
    }

    private static void aCutCountsNotAmongTheTwenty() {
        Check.about("At most 20 files LIVE at a time (the root not counted).");
        NotedVolume v = States.full();
        v.cutAfter(NONE);
        v.remove(20);
        v.cutAfter(2);
        Check.same("cut", CUT, v.make(0, false, 20));
        Check.same("live", 19, v.live());
        v.start();
        Check.same("its number", 21, v.make(0, false, 20));
        v.cutAfter(1);
        Check.no("cut", v.remove(21));
        v.start();
        Check.same("live", 20, v.live());
        Check.fails("one more", IllegalStateException.class, () -> v.make(0, false, 21));
    }

    private static void makeAnswersItsNumberOrCut() {
        Check.about("A file or folder is made: its number, or CUT.");
        NotedVolume v = States.busy();
        v.cutAfter(5);
        Check.same("its number", 6, v.make(4, true, 9));
        Check.same("sort", 1, v.of(6, 0));
        Check.same("parent", 4, v.of(6, 1));
        Check.same("CUT", -2, v.make(6, false, 9));
        Check.fails("not made", NoSuchElementException.class, () -> v.of(7, 0));
    }

    private static void makeWithoutPower() {
        Check.about("IllegalStateException when power is off, or 20 live");
        Twins.refused("make", IllegalStateException.class, States::off, v -> v.make(0, false, 9));
        Twins.refused("make, name 0", IllegalStateException.class, States::off, v -> v.make(0, false, 0));
        Twins.refused("make, no parent", IllegalStateException.class, States::off, v -> v.make(9, false, 9));
        Twins.refused("make, no folder", IllegalStateException.class, States::off, v -> v.make(2, true, 9));
    }

    private static void makeOfTheTwentyFirst() {
        Check.about("IllegalStateException when power is off, or 20 live");
        Twins.refused("make", IllegalStateException.class, States::full, v -> v.make(0, false, 21));
        Twins.refused("make in 1", IllegalStateException.class, States::full, v -> v.make(1, true, 1));
        Twins.refused("make, name 0", IllegalStateException.class, States::full, v -> v.make(0, false, 0));
        Twins.refused("make, no parent", IllegalStateException.class, States::full, v -> v.make(21, false, 9));
        Twins.refused("make, no folder", IllegalStateException.class, States::full, v -> v.make(2, false, 9));
        Twins.refused("make, name taken", IllegalStateException.class, States::full, v -> v.make(0, false, 2));
    }

    private static void makeWithNameZero() {
        Check.about("IllegalArgumentException when name is 0");
        Twins.refused("make", IllegalArgumentException.class, NotedVolume::new, v -> v.make(0, true, 0));
        Twins.refused("make in 1", IllegalArgumentException.class, States::busy, v -> v.make(1, false, 0));
        Twins.refused("make, no parent", IllegalArgumentException.class, States::busy, v -> v.make(9, false, 0));
        Twins.refused("make, no folder", IllegalArgumentException.class, States::busy, v -> v.make(2, false, 0));
    }

    private static void makeWithoutParent() {
        Check.about("NoSuchElementException when the parent neither lives nor is the root");
        for (int parent : NO_FILES) {
            Twins.refused("make in " + parent, NoSuchElementException.class, States::busy,
                    v -> v.make(parent, true, 9));
        }
        Twins.refused("make in 1", NoSuchElementException.class, NotedVolume::new, v -> v.make(1, true, 9));
        NotedVolume v = new NotedVolume();
        v.cutAfter(1);
        v.make(0, true, 1);
        v.start();
        Check.fails("in a folder that was cut", NoSuchElementException.class, () -> v.make(1, false, 1));
    }

    private static void makeInNoFolder() {
        Check.about("UnsupportedOperationException when that is no folder, or has a file of this name");
        Twins.refused("make in 2", UnsupportedOperationException.class, States::busy, v -> v.make(2, false, 9));
        Twins.refused("make in 3", UnsupportedOperationException.class, States::busy, v -> v.make(3, true, 3));
    }

    private static void makeOfANameThatIsThere() {
        Check.about("UnsupportedOperationException when that is no folder, or has a file of this name");
        Twins.refused("make, a file's", UnsupportedOperationException.class, States::busy,
                v -> v.make(0, true, 2));
        Twins.refused("make, a folder's", UnsupportedOperationException.class, States::busy,
                v -> v.make(1, false, 4));
    }

    private static void changeIsOneMore() {
        Check.about("The content changes: the mark, which is one more; CUT.");
        NotedVolume v = States.closed(2);
        Check.same("change", 1, v.change(1));
        Check.same("change", 2, v.change(1));
        Check.same("another's is its own", 1, v.change(2));
        v.cutAfter(1);
        Check.same("cut", CUT, v.change(1));
        Check.same("its mark stays", 2, v.of(1, 3));
        v.start();
        Check.same("from the mark that stayed", 3, v.change(1));
    }

    private static void changeWithoutPower() {
        Check.about("IllegalStateException when power is off");
        Twins.refused("change", IllegalStateException.class, States::off, v -> v.change(2));
        Twins.refused("change of none", IllegalStateException.class, States::off, v -> v.change(9));
        Twins.refused("change of a folder", IllegalStateException.class, States::off, v -> v.change(1));
    }

    private static void changeOfNoFile() {
        Check.about("NoSuchElementException when it doesn't live");
        for (int file : NO_FILES) {
            Twins.refused("change " + file, NoSuchElementException.class, States::busy, v -> v.change(file));
        }
    }

    private static void changeOfAFolder() {
        Check.about("UnsupportedOperationException when it is a folder");
        Twins.refused("change 1", UnsupportedOperationException.class, States::busy, v -> v.change(1));
        Twins.refused("change 4", UnsupportedOperationException.class, States::busy, v -> v.change(4));
    }

    private static void removeGoes() {
        Check.about("A file goes: true; false when power fails.");
        NotedVolume v = States.busy();
        v.cutAfter(NONE);
        Check.yes("a file", v.remove(3));
        Check.yes("an empty folder", v.remove(4));
        Check.yes("one that has become empty", v.remove(1));
        Check.fails("gone", NoSuchElementException.class, () -> v.of(1, 0));
        Check.same("live", 1, v.live());
        v.cutAfter(2);
        Check.no("cut, with the closing for room and its note", v.remove(2));
        Check.same("it lives", 2, v.of(2, 2));
    }

    private static void removeWithoutPower() {
        Check.about("IllegalStateException when power is off");
        Twins.refused("remove", IllegalStateException.class, States::off, v -> v.remove(2));
        Twins.refused("remove of none", IllegalStateException.class, States::off, v -> v.remove(5));
        Twins.refused("remove, files in it", IllegalStateException.class, States::off, v -> v.remove(1));
    }

    private static void removeOfNoFile() {
        Check.about("NoSuchElementException when it doesn't live");
        for (int file : NO_FILES) {
            Twins.refused("remove " + file, NoSuchElementException.class, States::busy, v -> v.remove(file));
        }
    }

    private static void removeOfAFolderWithFiles() {
        Check.about("UnsupportedOperationException when files lie in it");
        Twins.refused("remove 1", UnsupportedOperationException.class, States::busy, v -> v.remove(1));
        NotedVolume v = States.busy();
        v.cutAfter(NONE);
        v.rename(3, 4, 3);
        Check.fails("one with a lesser number in it", UnsupportedOperationException.class, () -> v.remove(4));
        Check.fails("a folder in it", UnsupportedOperationException.class, () -> v.remove(1));
        v.rename(3, 0, 3);
        Check.yes("its file was moved out", v.remove(4));
        Check.yes("its folder has gone", v.remove(1));
        v.make(0, true, 9);
        v.rename(2, 6, 2);
        Check.fails("the one with the least number", UnsupportedOperationException.class, () -> v.remove(6));
        v.remove(2);
        v.cutAfter(1);
        v.make(6, false, 1);
        v.start();
        Check.yes("a making in it was cut", v.remove(6));
    }

    private static void ofEachItem() {
        Check.about("Of a file that lives: its sort (0), parent (1), name (2), mark (3).");
        NotedVolume v = States.busy();
        v.change(3);
        int[] due = {0, 1, 3, 1};
        for (int what = 0; what < due.length; what++) {
            Check.same("of 3, " + what, due[what], v.of(3, what));
        }
        v.cutAfter(0);
        v.change(3);
        for (int what = 0; what < due.length; what++) {
            Check.same("without power, of 3, " + what, due[what], v.of(3, what));
        }
    }

    private static void ofNoFile() {
        Check.about("NoSuchElementException when it doesn't live");
        for (int file : NO_FILES) {
            Twins.refused("of " + file, NoSuchElementException.class, States::busy, v -> v.of(file, 0));
            Twins.refused("of " + file + ", 4", NoSuchElementException.class, States::busy, v -> v.of(file, 4));
        }
    }

    private static void ofNoSuchWhat() {
        Check.about("IndexOutOfBoundsException when there is no such what");
        for (int what : new int[] {MIN, -1, 4, 5, MAX}) {
            Twins.refused("of 2, " + what, IndexOutOfBoundsException.class, States::busy, v -> v.of(2, what));
        }
    }

    private static void findNone() {
        Check.about("The file of a name in a folder; NONE when there is none.");
        NotedVolume v = States.busy();
        Check.same("in the root", 1, v.find(0, 1));
        Check.same("in a folder", 4, v.find(1, 4));
        Check.same("of another folder", NONE, v.find(0, 4));
        Check.same("name 0", NONE, v.find(0, 0));
        Check.same("name 0 in none", NONE, v.find(9, 0));
        Check.same("of one that is gone", NONE, v.find(0, 5));
        Check.same("in an empty folder", NONE, v.find(4, 1));
        Check.same("in no folder", NONE, v.find(2, 1));
        Check.same("in a new volume", NONE, new NotedVolume().find(0, 1));
        for (int parent : NO_FILES) {
            Check.same("in " + parent, NONE, v.find(parent, 1));
        }
    }

    private static void liveCounts() {
        Check.about("How many files live.");
        NotedVolume v = States.busy();
        Check.same("folders too, in folders too", 4, v.live());
        v.cutAfter(2);
        Check.same("cut", CUT, v.make(0, false, 9));
        Check.same("without power", 4, v.live());
        v.start();
        Check.same("started", 4, v.live());
    }

    private static void theLastOf512Calls() {
        Check.about("An object is used for at most 512 calls after it has been made");
        NotedVolume v = new NotedVolume();
        for (int file = 1; file <= 255; file++) {
            Check.same("make", file, v.make(0, false, 7));
            Check.yes("remove", v.remove(file));
        }
        Check.same("call 511", 256, v.make(0, true, 7));
        Check.same("call 512", 256, v.find(0, 7));
    }
}
