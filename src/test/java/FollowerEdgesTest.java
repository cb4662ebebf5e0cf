import java.util.NoSuchElementException;

/** The edges that 'Terms' names for followers, and promises 20 to 22: a method a sentence. */
final class FollowerEdgesTest {
    private static final int NONE = NotedVolume.NONE;
    private static final int MIN = Integer.MIN_VALUE;
    private static final int MAX = Integer.MAX_VALUE;

    public static void main(String[] args) {
        copyAtFirstEmpty();
        copyOfManyFilesThatAreGone();
        copyOutlivesAFailure();
        pagesWhileAListingGoesOn();
        pageTakesOutFromZeroOn();
        pageTakesOutBetween();
        pageLeavesWhatIsAboveIt();
        lastPageTakesOutWithoutEnd();
        emptyPageTakesOutWithoutEnd();
        pageTakesOutAboveTheGreatestShownBefore();
        pageBringsInAsTheyAre();
        pageAfterTheSubscribersPage();
        readsAsItsSubscriber();
        readsWithAllReasons();
        tooLateBeginsAListing();
        tooLateAtTheEdge();
        noNoteNothingHappens();
        closedPutsInWhatIsNow();
        closedPutsOutWhatDoesNotLive();
        closedAndRemovedOfOneThatLives();
        removedTakesOut();
        removedTakesOutWhatIsNotThere();
        anyOtherPutsInAsItSays();
        renamedFromPutsInWhatWas();
        noteOfACutMaking();
        countsWhatHappened();
        countsAPageOfNone();
        noActions();
        exactlySoManyActions();
        actionsOutOfRange();
        copiedEachItem();
        copiedNotInIt();
        copiedNoSuchWhat();
        inStepOfEmptyOnes();
        inStepInAllThatTheyAreLike();
        inStepWithTheSameFiles();
        noSuchSubscriber();
        Check.end("FollowerEdgesTest");
    }

    private static void copyAtFirstEmpty() {
        Check.about("each subscriber has a COPY of files (at first empty)");
        NotedVolume v = States.busy();
        for (int file = 0; file <= 6; file++) {
            Check.noCopy(v, 0, file);
            Check.noCopy(v, 1, file);
        }
        Check.copy(v, 2, 1, 1, 0, 1, 0);
    }

    /** As many as 512 calls can bring into a copy, or near it. */
    private static void copyOfManyFilesThatAreGone() {
        Check.about("each subscriber has a COPY of files (at first empty)");
        NotedVolume v = new NotedVolume();
        int latest = 0;
        for (int round = 0; round < 26; round++) {
            for (int name = 1; name <= 8; name++) {
                latest = v.make(0, false, name);
            }
            v.follow(0, 40);
            for (int file = latest - 7; file <= latest; file++) {
                v.remove(file);
            }
            v.subscribe(0, 127);
        }
        Check.same("latest", 208, latest);
        // The last three of a round go out by their closing notes, in the next one; these stay.
        for (int file = 5; file <= latest; file += 8) {
            Check.same("name of " + file, 5, v.copied(0, file, 2));
        }
        Check.no("inStep", v.inStep(0));
        v.list(0);
        v.follow(0, 1);
        Check.noCopy(v, 0, 1);
        Check.noCopy(v, 0, 208);
        Check.yes("inStep", v.inStep(0));
    }

    private static void copyOutlivesAFailure() {
        Check.about("which outlives power failures, too");
        NotedVolume v = States.off();
        Check.copy(v, 2, 2, 0, 0, 2, 0);
        v.start();
        Check.copy(v, 2, 1, 1, 0, 1, 0);
        Check.copy(v, 2, 4, 1, 1, 4, 0);
        v.follow(2, 40);
        Check.yes("in step by the notes", v.inStep(2));
    }

    private static void pagesWhileAListingGoesOn() {
        Check.about("An ACTION of a follower: while its listing goes on, a page");
        NotedVolume v = States.closed(5);
        v.list(0);
        v.change(5);
        Check.same("a page", 1, v.follow(0, 1));
        Check.page(v, 0, 1, 2, 3, 4);
        Check.same("no note was read", 11, v.cursor(0));
        Check.same("a page", 1, v.follow(0, 1));
        Check.page(v, 0, 5, NONE, NONE, NONE);
        Check.same("no note was read", 11, v.cursor(0));
        Check.same("a note", 1, v.follow(0, 1));
        Check.same("cursor", 12, v.cursor(0));
    }

    private static void pageTakesOutFromZeroOn() {
        Check.about("the greatest shown before (0 at first)");
        NotedVolume v = copyOf(6);
        v.remove(1);
        v.remove(2);
        v.list(0);
        Check.same("a full page", 1, v.follow(0, 1));
        Check.page(v, 0, 3, 4, 5, 6);
        Check.noCopy(v, 0, 1);
        Check.noCopy(v, 0, 2);
        Check.copy(v, 0, 3, 0, 0, 3, 0);
    }

    private static void pageTakesOutBetween() {
        Check.about("all files of the copy with numbers between the greatest shown before (0 at first) "
                + "and the greatest of this page");
        NotedVolume v = copyOf(13);
        v.remove(5);
        v.remove(7);
        v.remove(9);
        v.list(0);
        v.follow(0, 2);
        Check.page(v, 0, 6, 8, 10, 11);
        for (int file = 1; file <= 13; file++) {
            if (file == 5 || file == 7 || file == 9) {
                Check.noCopy(v, 0, file);
            } else {
                Check.copy(v, 0, file, 0, 0, file, 0);
            }
        }
    }

    private static void pageLeavesWhatIsAboveIt() {
        Check.about("and the greatest of this page");
        NotedVolume v = copyOf(8);
        v.remove(5);
        v.remove(8);
        v.list(0);
        v.follow(0, 1);
        Check.page(v, 0, 1, 2, 3, 4);
        Check.copy(v, 0, 5, 0, 0, 5, 0);
        Check.copy(v, 0, 6, 0, 0, 6, 0);
        Check.copy(v, 0, 8, 0, 0, 8, 0);
    }

    private static void lastPageTakesOutWithoutEnd() {
        Check.about("(without end, when the page ends the listing)");
        NotedVolume v = copyOf(7);
        v.remove(6);
        v.remove(7);
        v.list(0);
        v.follow(0, 1);
        Check.copy(v, 0, 7, 0, 0, 7, 0);
        v.follow(0, 1);
        Check.page(v, 0, 5, NONE, NONE, NONE);
        Check.copy(v, 0, 5, 0, 0, 5, 0);
        Check.noCopy(v, 0, 6);
        Check.noCopy(v, 0, 7);
        Check.yes("in step", v.inStep(0));
    }

    private static void emptyPageTakesOutWithoutEnd() {
        Check.about("(without end, when the page ends the listing)");
        NotedVolume v = copyOf(6);
        v.remove(5);
        v.remove(6);
        v.list(0);
        Check.same("a full page, and one of none", 2, v.follow(0, 40));
        Check.page(v, 0, NONE, NONE, NONE, NONE);
        Check.copy(v, 0, 4, 0, 0, 4, 0);
        Check.noCopy(v, 0, 5);
        Check.noCopy(v, 0, 6);
        NotedVolume w = copyOf(3);
        w.remove(1);
        w.remove(2);
        w.remove(3);
        w.list(0);
        Check.same("of an empty volume", 1, w.follow(0, 1));
        for (int file = 1; file <= 3; file++) {
            Check.noCopy(w, 0, file);
        }
    }

    private static void pageTakesOutAboveTheGreatestShownBefore() {
        Check.about("between the greatest shown before (0 at first) and the greatest of this page");
        NotedVolume v = copyOf(6);
        v.list(0);
        v.follow(0, 1);
        v.remove(2);
        v.remove(4);
        v.follow(0, 1);
        Check.page(v, 0, 5, 6, NONE, NONE);
        Check.copy(v, 0, 2, 0, 0, 2, 0);
        Check.copy(v, 0, 4, 0, 0, 4, 0);
        v.follow(0, 40);
        Check.noCopy(v, 0, 4);
        Check.yes("in step by the notes", v.inStep(0));
    }

    private static void pageBringsInAsTheyAre() {
        Check.about("and those of the page come in, as they are");
        NotedVolume v = copyOf(3);
        v.make(0, true, 4);
        v.change(1);
        v.rename(2, 4, 9);
        v.list(0);
        v.change(1);
        v.follow(0, 1);
        Check.copy(v, 0, 1, 0, 0, 1, 2);
        Check.copy(v, 0, 2, 0, 4, 9, 0);
        Check.copy(v, 0, 3, 0, 0, 3, 0);
        Check.copy(v, 0, 4, 1, 0, 4, 0);
        v.change(3);
        Check.copy(v, 0, 3, 0, 0, 3, 0);
    }

    private static void pageAfterTheSubscribersPage() {
        Check.about("between the greatest shown before (0 at first) and the greatest of this page");
        NotedVolume v = copyOf(10);
        v.remove(2);
        v.remove(7);
        v.list(0);
        v.page(0);
        Check.page(v, 0, 1, 3, 4, 5);
        Check.copy(v, 0, 2, 0, 0, 2, 0);
        v.follow(0, 1);
        Check.page(v, 0, 6, 8, 9, 10);
        Check.copy(v, 0, 2, 0, 0, 2, 0);
        Check.noCopy(v, 0, 7);
        Check.same("the subscriber's page ends what the follower went on with", 0, v.page(0));
    }

    private static void readsAsItsSubscriber() {
        Check.about("Otherwise it reads, as its subscriber, but with all reasons");
        NotedVolume v = States.closed(3);
        v.read(0);
        v.read(0);
        v.read(0);
        Check.same("from its cursor on", 3, v.follow(0, 40));
        Check.noCopy(v, 0, 1);
        Check.copy(v, 0, 2, 0, 0, 2, 0);
        Check.same("cursor", 7, v.cursor(0));
        Check.same("read", 0, v.read(0));
        Check.same("another's cursor stays", 1, v.cursor(1));
    }

    private static void readsWithAllReasons() {
        Check.about("Otherwise it reads, as its subscriber, but with all reasons");
        for (int mask : new int[] {0, 32, 64, 127}) {
            NotedVolume v = new NotedVolume();
            v.subscribe(0, mask);
            v.make(0, false, 1);
            v.close(1);
            v.change(1);
            v.close(1);
            v.rename(1, 0, 2);
            Check.same("with mask " + mask, 6, v.follow(0, 40));
            Check.yes("in step", v.inStep(0));
            v.change(1);
            Check.same("the mask stays", mask == 127 ? 7 : 0, v.read(0));
        }
    }

    private static void tooLateBeginsAListing() {
        Check.about("when it is too late, a listing begins (and that is all of this action)");
        NotedVolume v = copyOf(2);
        v.remove(2);
        States.changes(v, 17);
        int head = v.head();
        Check.same("a beginning", 1, v.follow(0, 1));
        Check.same("cursor", head, v.cursor(0));
        Check.copy(v, 0, 1, 0, 0, 1, 0);
        Check.copy(v, 0, 2, 0, 0, 2, 0);
        Check.page(v, 0, NONE, NONE, NONE, NONE);
        Check.same("the page of its listing", 1, v.page(0));
    }

    private static void tooLateAtTheEdge() {
        Check.about("when it is too late, a listing begins");
        NotedVolume v = States.notes(16);
        Check.same("at TAIL", 1, v.follow(0, 1));
        Check.same("a note", 2, v.cursor(0));
        Check.copy(v, 0, 1, 0, 0, 1, 0);
        v.change(1);
        Check.same("below TAIL", 1, v.follow(1, 1));
        Check.same("a beginning", 18, v.cursor(1));
        Check.same("at TAIL", 16, v.follow(0, 40));
        Check.yes("in step", v.inStep(0));
    }

    private static void noNoteNothingHappens() {
        Check.about("when there is no note, nothing happens");
        Twins.unchanged("follow", 0, NotedVolume::new, v -> v.follow(0, 40));
        Twins.unchanged("follow", 0, () -> copyOf(4), v -> v.follow(0, 40));
        NotedVolume v = copyOf(2);
        int head = v.head();
        Check.same("follow", 0, v.follow(0, 1));
        Check.same("cursor", head, v.cursor(0));
        Check.fails("no listing", IllegalStateException.class, () -> v.page(0));
    }

    private static void closedPutsInWhatIsNow() {
        Check.about("a note with CLOSED puts the file as it is now into the copy");
        NotedVolume v = States.closed(1);
        v.read(0);
        v.change(1);
        v.rename(1, 0, 9);
        Check.same("the closing note says", 0, v.note(2, 4));
        v.follow(0, 1);
        Check.copy(v, 0, 1, 0, 0, 9, 1);
        Check.yes("in step, before the notes between", v.inStep(0));
    }

    private static void closedPutsOutWhatDoesNotLive() {
        Check.about("or out of it, when it doesn't live");
        NotedVolume v = States.closed(1);
        v.follow(0, 1);
        Check.copy(v, 0, 1, 0, 0, 1, 0);
        v.remove(1);
        Check.same("the closing note is from before", 1 + 64, v.note(2, 5));
        v.follow(0, 1);
        Check.noCopy(v, 0, 1);
        v.close(1);
        Check.same("its removal and its closing", 2, v.follow(0, 40));
        Check.noCopy(v, 0, 1);
    }

    private static void closedAndRemovedOfOneThatLives() {
        Check.about("a note with CLOSED puts the file as it is now into the copy");
        NotedVolume v = copyOf(1);
        v.cutAfter(1);
        v.remove(1);
        v.follow(0, 1);
        Check.noCopy(v, 0, 1);
        v.start();
        Check.same("removed and closed", 32 + 64, v.note(v.head() - 1, 5));
        v.follow(0, 1);
        Check.copy(v, 0, 1, 0, 0, 1, 0);
    }

    private static void removedTakesOut() {
        Check.about("one with REMOVED takes it out");
        NotedVolume v = copyOf(2);
        v.change(1);
        v.remove(1);
        v.follow(0, 1);
        Check.copy(v, 0, 1, 0, 0, 1, 1);
        v.follow(0, 1);
        Check.noCopy(v, 0, 1);
        Check.copy(v, 0, 2, 0, 0, 2, 0);
        Check.yes("in step", v.inStep(0));
    }

    private static void removedTakesOutWhatIsNotThere() {
        Check.about("one with REMOVED takes it out");
        NotedVolume v = States.closed(2);
        v.subscribe(0, 127);
        v.remove(2);
        Check.same("it happens all the same", 1, v.follow(0, 40));
        Check.noCopy(v, 0, 2);
        Check.noCopy(v, 0, 1);
    }

    private static void anyOtherPutsInAsItSays() {
        Check.about("any other one puts it in as the note says");
        NotedVolume v = new NotedVolume();
        v.make(0, true, 7);
        v.make(1, false, 8);
        v.change(2);
        v.rename(2, 0, 9);
        v.follow(0, 1);
        Check.copy(v, 0, 1, 1, 0, 7, 0);
        v.follow(0, 1);
        Check.copy(v, 0, 2, 0, 1, 8, 0);
        v.follow(0, 1);
        Check.copy(v, 0, 2, 0, 1, 8, 1);
        v.follow(0, 2);
        Check.copy(v, 0, 2, 0, 0, 9, 1);
    }

    private static void renamedFromPutsInWhatWas() {
        Check.about("any other one puts it in as the note says");
        NotedVolume v = States.closed(1);
        v.subscribe(0, 127);
        v.rename(1, 0, 9);
        v.follow(0, 1);
        Check.copy(v, 0, 1, 0, 0, 1, 0);
        Check.no("inStep", v.inStep(0));
        v.follow(0, 1);
        Check.copy(v, 0, 1, 0, 0, 9, 0);
        Check.yes("inStep", v.inStep(0));
    }

    private static void noteOfACutMaking() {
        Check.about("any other one puts it in as the note says");
        NotedVolume v = copyOf(1);
        v.cutAfter(1);
        v.make(0, true, 9);
        v.follow(0, 40);
        Check.copy(v, 0, 2, 1, 0, 9, 0);
        Check.no("inStep", v.inStep(0));
        v.start();
        v.follow(0, 40);
        Check.noCopy(v, 0, 2);
        Check.yes("inStep", v.inStep(0));
    }

    private static void countsWhatHappened() {
        Check.about("in how many of them anything happened (a page, a beginning, a note)");
        NotedVolume v = States.closed(9);
        Check.same("tail", 3, v.tail());
        Check.same("a beginning and three pages", 4, v.follow(0, 40));
        Check.same("nothing", 0, v.follow(0, 40));
        v.change(1);
        v.change(1);
        Check.same("two notes", 2, v.follow(0, 3));
        v.list(0);
        v.change(2);
        Check.same("three pages and a note", 4, v.follow(0, 40));
        Check.yes("in step", v.inStep(0));
    }

    private static void countsAPageOfNone() {
        Check.about("in how many of them anything happened (a page, a beginning, a note)");
        NotedVolume v = new NotedVolume();
        v.list(0);
        Check.same("a page of none", 1, v.follow(0, 40));
        NotedVolume w = States.full();
        Check.same("a beginning, five full pages, one of none", 7, w.follow(0, 40));
        Check.yes("in step", w.inStep(0));
    }

    private static void noActions() {
        Check.about("IllegalArgumentException when n is not 0 .. 40");
        Twins.unchanged("follow(0, 0)", 0, States::busy, v -> v.follow(0, 0));
        Twins.unchanged("follow(1, 0)", 0, States::busy, v -> v.follow(1, 0));
        Twins.unchanged("follow(0, 0)", 0, () -> States.notes(20), v -> v.follow(0, 0));
    }

    private static void exactlySoManyActions() {
        Check.about("n actions of a follower");
        for (int n = 0; n <= 12; n++) {
            NotedVolume v = States.notes(10);
            Check.same("follow " + n, Math.min(n, 10), v.follow(0, n));
            Check.same("cursor", Math.min(n, 10) + 1, v.cursor(0));
        }
        NotedVolume v = States.notes(16);
        Check.same("40 are enough for all notes", 16, v.follow(0, 40));
    }

    private static void actionsOutOfRange() {
        Check.about("IllegalArgumentException when n is not 0 .. 40");
        for (int n : new int[] {MIN, -1, 41, 42, MAX}) {
            Twins.refused("follow(0, " + n + ")", IllegalArgumentException.class, States::busy,
                    v -> v.follow(0, n));
            Twins.refused("follow(1, " + n + ")", IllegalArgumentException.class, States::off,
                    v -> v.follow(1, n));
        }
    }

    private static void copiedEachItem() {
        Check.about("Of a file in a follower's copy: its sort (0), parent (1), name (2), mark (3)");
        NotedVolume v = States.busy();
        v.change(3);
        v.follow(2, 40);
        Check.copy(v, 2, 1, 1, 0, 1, 0);
        Check.copy(v, 2, 3, 0, 1, 3, 1);
        v.change(3);
        Check.copy(v, 2, 3, 0, 1, 3, 1);
        v.remove(3);
        Check.copy(v, 2, 3, 0, 1, 3, 1);
    }

    private static void copiedNotInIt() {
        Check.about("NoSuchElementException when it is not in it");
        for (int file : new int[] {MIN, -1, 0, 5, 6, 20, MAX}) {
            Twins.refused("copied(2, " + file + ")", NoSuchElementException.class, States::busy,
                    v -> v.copied(2, file, 0));
        }
        Twins.refused("copied(0, 1)", NoSuchElementException.class, States::busy, v -> v.copied(0, 1, 3));
    }

    private static void copiedNoSuchWhat() {
        Check.about("IndexOutOfBoundsException, first, when there is no such subscriber or what.");
        for (int what : new int[] {MIN, -1, 4, 5, MAX}) {
            Twins.refused("in it, " + what, IndexOutOfBoundsException.class, States::busy,
                    v -> v.copied(2, 1, what));
            Twins.refused("not in it, " + what, IndexOutOfBoundsException.class, States::busy,
                    v -> v.copied(2, 9, what));
        }
        for (int s : new int[] {MIN, -1, 3, MAX}) {
            Twins.refused("subscriber " + s, IndexOutOfBoundsException.class, States::busy,
                    v -> v.copied(s, 1, 0));
            Twins.refused("subscriber " + s, IndexOutOfBoundsException.class, States::busy,
                    v -> v.copied(s, 9, 9));
        }
    }

    private static void inStepOfEmptyOnes() {
        Check.about("Whether a follower's copy is the volume: the same files, with all that they are like.");
        NotedVolume v = new NotedVolume();
        for (int s = 0; s <= 2; s++) {
            Check.yes("both empty", v.inStep(s));
        }
        v.make(0, false, 1);
        v.follow(1, 1);
        Check.no("one too few", v.inStep(0));
        Check.yes("in step", v.inStep(1));
        v.remove(1);
        Check.yes("both empty again", v.inStep(0));
        Check.no("one too many", v.inStep(1));
    }

    private static void inStepInAllThatTheyAreLike() {
        Check.about("the same files, with all that they are like");
        NotedVolume v = copyOf(2);
        v.make(0, true, 5);
        v.follow(0, 1);
        Check.yes("in step", v.inStep(0));
        v.change(1);
        Check.no("the mark", v.inStep(0));
        v.follow(0, 40);
        v.rename(2, 0, 9);
        Check.no("the name", v.inStep(0));
        v.follow(0, 40);
        v.rename(2, 3, 9);
        Check.no("the parent", v.inStep(0));
        v.rename(2, 0, 9);
        Check.yes("as it was", v.inStep(0));
        sortAlone();
    }

    /** A cut folder's note leaves the copy with a folder where the volume then makes a file. */
    private static void sortAlone() {
        NotedVolume v = new NotedVolume();
        v.cutAfter(1);
        v.make(0, true, 9);
        v.follow(0, 1);
        v.start();
        v.make(0, false, 9);
        Check.copy(v, 0, 1, 1, 0, 9, 0);
        Check.no("the sort", v.inStep(0));
        v.follow(0, 1);
        Check.yes("by the closing note", v.inStep(0));
    }

    private static void inStepWithTheSameFiles() {
        Check.about("the same files, with all that they are like");
        NotedVolume v = copyOf(2);
        v.remove(2);
        v.make(0, false, 2);
        Check.no("as many, all the same but a number", v.inStep(0));
        v.list(0);
        v.follow(0, 1);
        Check.yes("in step", v.inStep(0));
        v.remove(3);
        Check.no("one too many", v.inStep(0));
        v.follow(0, 1);
        Check.yes("in step", v.inStep(0));
    }

    private static void noSuchSubscriber() {
        Check.about("IndexOutOfBoundsException when there is no such subscriber");
        for (int s : new int[] {MIN, -1, 3, 4, MAX}) {
            Twins.refused("follow " + s, IndexOutOfBoundsException.class, States::busy, v -> v.follow(s, 1));
            Twins.refused("follow " + s, IndexOutOfBoundsException.class, States::busy, v -> v.follow(s, 41));
            Twins.refused("inStep " + s, IndexOutOfBoundsException.class, States::busy, v -> v.inStep(s));
        }
    }

    /** The files 1 to n, none with a gathering, and follower 0 in step with them. */
    private static NotedVolume copyOf(int n) {
        NotedVolume v = new NotedVolume();
        for (int file = 1; file <= n; file++) {
            v.make(0, false, file);
            v.close(file);
            v.follow(0, 2);
        }
        return v;
    }
}
