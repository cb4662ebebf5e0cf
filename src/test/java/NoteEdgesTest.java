import java.util.NoSuchElementException;

/** The edges that 'Terms' names for notes and gatherings, and promises 6, 7, 11, 12, 13. */
final class NoteEdgesTest {
    private static final int MIN = Integer.MIN_VALUE;
    private static final int MAX = Integer.MAX_VALUE;

    public static void main(String[] args) {
        serialsFromOneOn();
        theLatestSixteenAreKept();
        theRingGoesRoundAgain();
        closingNotesTakeCellsToo();
        headAndTailOfNone();
        headAndTailAtEachNumberOfNotes();
        openedByTheFirstNote();
        aClosedOneIsOpenedAnew();
        reasonsSoFar();
        reasonsOutliveTheirNotes();
        closedWithAllItsReasons();
        threeAreOpenAtMost();
        theOneOpenedFirstIsClosed();
        anOpenOneNeedsNoRoom();
        roomForEachChange();
        roomByAClosingThatWasAsked();
        roomTakenByOneThatIsGone();
        notesTellWhatIsBehindTheChange();
        oneNoteForAMakingOrAChange();
        removalTellsWhatItWas();
        removalLeavesItOpen();
        closingTellsWhatIsNow();
        closingOfOneThatDoesNotLive();
        closeOfAnyNumber();
        closeWithoutPower();
        closeOfNone();
        openCounts();
        openWithoutPower();
        noteEachItem();
        noteNotKept();
        noteNoSuchWhat();
        Check.end("NoteEdgesTest");
    }

    private static void serialsFromOneOn() {
        Check.about("a SERIAL (from 1 on, each one more than the one before)");
        NotedVolume v = new NotedVolume();
        v.make(0, false, 1);
        Check.note(v, 1, 1, 0, 0, 1, 0, 1);
        v.rename(1, 0, 2);
        Check.note(v, 2, 1, 0, 0, 1, 0, 1 + 4);
        Check.note(v, 3, 1, 0, 0, 2, 0, 1 + 4 + 8);
        v.close(1);
        Check.note(v, 4, 1, 0, 0, 2, 0, 1 + 4 + 8 + 64);
        States.fail(v, 1);
        v.start();
        v.change(1);
        Check.note(v, 5, 1, 0, 0, 2, 1, 2);
        v.cutAfter(1);
        v.change(1);
        v.start();
        Check.note(v, 6, 1, 0, 0, 2, 2, 2);
        Check.note(v, 7, 1, 0, 0, 2, 1, 2 + 64);
    }

    private static void theLatestSixteenAreKept() {
        Check.about("The ring has 16 cells: the latest 16 notes are kept.");
        for (int n : new int[] {1, 15, 16, 17, 18, 31, 32, 33, 34, 50}) {
            NotedVolume v = States.notes(n);
            int least = Math.max(1, n - 15);
            for (int serial = least; serial <= n; serial++) {
                Check.note(v, serial, 1, 0, 0, 1, serial - 1, serial == 1 ? 1 : 1 + 2);
            }
            Check.fails("the one before", NoSuchElementException.class, () -> v.note(least - 1, 0));
            Check.fails("the next one", NoSuchElementException.class, () -> v.note(n + 1, 0));
        }
    }

    private static void theRingGoesRoundAgain() {
        Check.about("The ring has 16 cells: the latest 16 notes are kept.");
        NotedVolume v = States.notes(16);
        Check.same("the first", 0, v.note(1, 4));
        v.change(1);
        Check.fails("the first, written over", NoSuchElementException.class, () -> v.note(1, 4));
        Check.same("the one over it", 16, v.note(17, 4));
        Check.same("the second", 1, v.note(2, 4));
        v.rename(1, 0, 5);
        Check.fails("the second, written over", NoSuchElementException.class, () -> v.note(2, 4));
        Check.fails("the third, written over", NoSuchElementException.class, () -> v.note(3, 4));
        Check.same("the fourth", 3, v.note(4, 4));
    }

    private static void closingNotesTakeCellsToo() {
        Check.about("The ring has 16 cells: the latest 16 notes are kept.");
        NotedVolume v = States.notes(16);
        v.close(1);
        Check.same("tail behind a closing", 2, v.tail());
        v.make(0, false, 2);
        v.make(0, false, 3);
        v.make(0, false, 4);
        v.change(1);
        Check.same("tail behind a closing for room", 7, v.tail());
        v.cutAfter(0);
        v.change(1);
        v.start();
        Check.same("tail behind a start that closes 3", 10, v.tail());
        Check.same("head", 26, v.head());
    }

    private static void headAndTailOfNone() {
        Check.about("TAIL the least that is kept (that is HEAD when there is none)");
        NotedVolume v = new NotedVolume();
        Check.same("head", 1, v.head());
        Check.same("tail", 1, v.tail());
        Check.fails("a refused call", IllegalArgumentException.class, () -> v.make(0, false, 0));
        v.cutAfter(0);
        Check.same("cut before its note", NotedVolume.CUT, v.make(0, false, 1));
        Check.same("start", 0, v.start());
        Check.same("head", 1, v.head());
        Check.same("tail", 1, v.tail());
    }

    private static void headAndTailAtEachNumberOfNotes() {
        Check.about("HEAD is the serial of the next note, TAIL the least that is kept");
        NotedVolume v = new NotedVolume();
        v.make(0, false, 1);
        for (int n = 1; n <= 50; n++) {
            Check.same("head", n + 1, v.head());
            Check.same("tail", n <= 16 ? 1 : n - 15, v.tail());
            v.change(1);
        }
    }

    private static void openedByTheFirstNote() {
        Check.about("A GATHERING of a file is opened by the first note of a change of it");
        NotedVolume made = new NotedVolume();
        made.make(0, false, 1);
        Check.same("by its making", 1, made.open());
        NotedVolume changed = States.closed(2);
        Check.same("closed", 0, changed.open());
        changed.change(1);
        Check.same("by a change", 1, changed.open());
        NotedVolume renamed = States.closed(2);
        renamed.rename(1, 0, 9);
        Check.same("by a renaming, one for both notes", 1, renamed.open());
        NotedVolume removed = States.closed(2);
        removed.remove(1);
        Check.same("by a removal", 1, removed.open());
    }

    private static void aClosedOneIsOpenedAnew() {
        Check.about("and has the reasons of all its notes since");
        NotedVolume v = new NotedVolume();
        v.make(0, false, 1);
        v.change(1);
        v.close(1);
        v.change(1);
        Check.same("none from before its closing", 2, v.note(v.head() - 1, 5));
        v.close(1);
        Check.same("none from before its closing", 2 + 64, v.note(v.head() - 1, 5));
        v.remove(1);
        Check.same("nor the closing itself", 32, v.note(v.head() - 1, 5));
    }

    private static void reasonsSoFar() {
        Check.about("each note of a change has, besides its own reasons, all that its file's gathering has so far");
        NotedVolume v = new NotedVolume();
        v.make(0, true, 9);
        v.make(0, false, 1);
        Check.same("made", 1, v.note(2, 5));
        v.rename(2, 1, 1);
        Check.same("renamed from", 1 + 4, v.note(3, 5));
        Check.same("renamed to", 1 + 4 + 8 + 16, v.note(4, 5));
        v.change(2);
        Check.same("changed", 1 + 2 + 4 + 8 + 16, v.note(5, 5));
        v.change(2);
        Check.same("no reason counts twice", 1 + 2 + 4 + 8 + 16, v.note(6, 5));
        v.remove(2);
        Check.same("removed", 1 + 2 + 4 + 8 + 16 + 32, v.note(7, 5));
        v.rename(1, 0, 8);
        Check.same("none of another file's", 1 + 4, v.note(8, 5));
        Check.same("those before are as they were", 1, v.note(2, 5));
    }

    private static void reasonsOutliveTheirNotes() {
        Check.about("each note of a change has, besides its own reasons, all that its file's gathering has so far");
        NotedVolume v = new NotedVolume();
        v.make(0, false, 1);
        v.rename(1, 0, 2);
        v.make(0, false, 3);
        for (int i = 0; i < 20; i++) {
            v.change(2);
        }
        v.change(1);
        Check.same("from notes that are not kept", 1 + 2 + 4 + 8, v.note(v.head() - 1, 5));
        v.close(2);
        Check.same("from notes that are not kept", 1 + 2 + 64, v.note(v.head() - 1, 5));
    }

    private static void closedWithAllItsReasons() {
        Check.about("It is closed by a note with CLOSED and all its reasons.");
        NotedVolume v = new NotedVolume();
        v.make(0, false, 1);
        v.close(1);
        Check.same("one reason", 1 + 64, v.note(2, 5));
        v.change(1);
        v.rename(1, 0, 2);
        v.remove(1);
        v.close(1);
        Check.same("four", 2 + 4 + 8 + 32 + 64, v.note(v.head() - 1, 5));
        Check.same("open", 0, v.open());
    }

    private static void threeAreOpenAtMost() {
        Check.about("At most 3 are open");
        NotedVolume v = new NotedVolume();
        for (int file = 1; file <= 10; file++) {
            v.make(0, false, file);
            Check.same("open", Math.min(file, 3), v.open());
            Check.same("head", file <= 3 ? file + 1 : 2 * file - 2, v.head());
        }
    }

    private static void theOneOpenedFirstIsClosed() {
        Check.about("when one more is opened, the one that was opened first is closed before");
        NotedVolume v = States.closed(4);
        v.change(3);
        v.change(1);
        v.change(2);
        v.change(3);
        v.change(3);
        int head = v.head();
        v.change(4);
        Check.note(v, head, 3, 0, 0, 3, 3, 2 + 64);
        Check.note(v, head + 1, 4, 0, 0, 4, 1, 2);
        v.change(3);
        Check.same("then the second", 1, v.note(head + 2, 0));
        v.change(1);
        Check.same("then the third", 2, v.note(head + 4, 0));
        v.change(2);
        Check.same("then the one that it was closed for", 4, v.note(head + 6, 0));
    }

    private static void anOpenOneNeedsNoRoom() {
        Check.about("when one more is opened, the one that was opened first is closed before");
        NotedVolume v = States.busy();
        v.cutAfter(NotedVolume.NONE);
        int head = v.head();
        v.change(3);
        v.rename(4, 0, 4);
        v.remove(3);
        Check.same("four notes of changes", head + 4, v.head());
        Check.same("open", 3, v.open());
    }

    private static void roomForEachChange() {
        Check.about("when one more is opened, the one that was opened first is closed before");
        int head = States.busy().head();
        NotedVolume made = States.busy();
        made.make(0, false, 9);
        Check.note(made, head, 3, 0, 1, 3, 0, 1 + 64);
        Check.note(made, head + 1, 6, 0, 0, 9, 0, 1);
        NotedVolume changed = States.busy();
        changed.change(2);
        Check.note(changed, head, 3, 0, 1, 3, 0, 1 + 64);
        Check.note(changed, head + 1, 2, 0, 0, 2, 1, 2);
        NotedVolume renamed = States.busy();
        renamed.rename(2, 0, 9);
        Check.note(renamed, head, 3, 0, 1, 3, 0, 1 + 64);
        Check.note(renamed, head + 1, 2, 0, 0, 2, 0, 4);
        Check.note(renamed, head + 2, 2, 0, 0, 9, 0, 4 + 8);
        Check.same("one for both its notes", head + 3, renamed.head());
        NotedVolume removed = States.busy();
        removed.remove(2);
        Check.note(removed, head, 3, 0, 1, 3, 0, 1 + 64);
        Check.note(removed, head + 1, 2, 0, 0, 2, 0, 32);
    }

    private static void roomByAClosingThatWasAsked() {
        Check.about("At most 3 are open");
        NotedVolume v = States.busy();
        int head = v.head();
        v.close(4);
        Check.same("open", 2, v.open());
        v.change(2);
        Check.same("no closing for room", 2, v.note(head + 1, 0));
        Check.same("open", 3, v.open());
        v.make(0, false, 9);
        Check.same("the one opened first", 3, v.note(head + 2, 0));
        v.make(0, false, 10);
        Check.same("the closed one is not closed again", 5, v.note(head + 4, 0));
    }

    private static void roomTakenByOneThatIsGone() {
        Check.about("REMOVING: REMOVED, with what it was like; its gathering stays open.");
        NotedVolume v = States.closed(4);
        v.remove(1);
        v.remove(2);
        v.remove(3);
        Check.same("open", 3, v.open());
        int head = v.head();
        v.change(4);
        Check.note(v, head, 1, 0, 0, 0, 0, 32 + 64);
        Check.note(v, head + 1, 4, 0, 0, 4, 1, 2);
    }

    private static void notesTellWhatIsBehindTheChange() {
        Check.about("as they are written, with what the file is like behind the change, if nothing else is said");
        NotedVolume v = new NotedVolume();
        v.make(0, true, -7);
        Check.note(v, 1, 1, 1, 0, -7, 0, 1);
        v.make(1, false, 8);
        v.change(2);
        Check.note(v, 3, 2, 0, 1, 8, 1, 1 + 2);
        v.rename(2, 0, 9);
        Check.note(v, 4, 2, 0, 1, 8, 1, 1 + 2 + 4);
        Check.note(v, 5, 2, 0, 0, 9, 1, 1 + 2 + 4 + 8 + 16);
    }

    private static void oneNoteForAMakingOrAChange() {
        Check.about("MAKING: CREATED. A change of CONTENT: CONTENT.");
        NotedVolume v = new NotedVolume();
        v.make(0, true, 1);
        Check.same("reasons", 1, v.note(1, 5));
        Check.same("head", 2, v.head());
        v.make(0, false, 2);
        Check.same("reasons", 1, v.note(2, 5));
        v.close(2);
        v.change(2);
        Check.same("reasons", 2, v.note(4, 5));
        Check.same("head", 5, v.head());
    }

    private static void removalTellsWhatItWas() {
        Check.about("REMOVING: REMOVED, with what it was like; its gathering stays open.");
        NotedVolume v = new NotedVolume();
        v.make(0, true, 7);
        v.make(1, false, 8);
        v.close(2);
        v.change(2);
        v.remove(2);
        Check.note(v, 5, 2, 0, 1, 8, 1, 2 + 32);
        v.remove(1);
        Check.note(v, 6, 1, 1, 0, 7, 0, 1 + 32);
        Check.same("head", 7, v.head());
    }

    private static void removalLeavesItOpen() {
        Check.about("REMOVING: REMOVED, with what it was like; its gathering stays open.");
        NotedVolume v = States.closed(1);
        v.remove(1);
        Check.same("open", 1, v.open());
        Check.yes("close", v.close(1));
        Check.same("open", 0, v.open());
    }

    private static void closingTellsWhatIsNow() {
        Check.about("CLOSING writes the closing note alone, with what the file is like now");
        NotedVolume v = new NotedVolume();
        v.make(0, true, 7);
        v.make(1, false, 8);
        v.change(2);
        v.rename(2, 0, 9);
        int head = v.head();
        v.close(2);
        Check.note(v, head, 2, 0, 0, 9, 1, 1 + 2 + 4 + 8 + 16 + 64);
        Check.same("alone", head + 1, v.head());
        Check.same("it lives on", 9, v.of(2, 2));
        v.close(1);
        Check.note(v, head + 1, 1, 1, 0, 7, 0, 1 + 64);
    }

    private static void closingOfOneThatDoesNotLive() {
        Check.about("for one that does not live, sort, parent, name and mark are 0");
        NotedVolume v = new NotedVolume();
        v.make(0, true, 7);
        v.make(1, true, 8);
        v.make(1, false, 9);
        v.change(3);
        v.remove(2);
        v.remove(3);
        v.close(2);
        v.close(3);
        Check.note(v, v.head() - 2, 2, 0, 0, 0, 0, 1 + 32 + 64);
        Check.note(v, v.head() - 1, 3, 0, 0, 0, 0, 1 + 2 + 32 + 64);
    }

    private static void closeOfAnyNumber() {
        Check.about("A file's gathering is closed (that of any number that has one): true; false when power fails.");
        NotedVolume v = States.busy();
        Check.yes("one that is gone", v.close(5));
        Check.yes("a folder", v.close(4));
        Check.yes("a file", v.close(3));
        Check.same("open", 0, v.open());
        NotedVolume w = States.busy();
        w.cutAfter(0);
        Check.no("cut", w.close(5));
        Check.no("isOn", w.isOn());
        Check.same("nothing was written", 9, w.head());
    }

    private static void closeWithoutPower() {
        Check.about("IllegalStateException when power is off");
        Twins.refused("close 3", IllegalStateException.class, States::off, v -> v.close(3));
        Twins.refused("close 2", IllegalStateException.class, States::off, v -> v.close(2));
        Twins.refused("close 99", IllegalStateException.class, States::off, v -> v.close(99));
    }

    private static void closeOfNone() {
        Check.about("NoSuchElementException when none is open");
        for (int file : new int[] {MIN, -1, 0, 1, 2, 6, 7, MAX}) {
            Twins.refused("close " + file, NoSuchElementException.class, States::busy, v -> v.close(file));
        }
        Twins.refused("close 1", NoSuchElementException.class, NotedVolume::new, v -> v.close(1));
        NotedVolume v = States.busy();
        v.close(5);
        Check.fails("twice", NoSuchElementException.class, () -> v.close(5));
        v.cutAfter(0);
        v.close(3);
        v.start();
        Check.fails("closed by a start", NoSuchElementException.class, () -> v.close(3));
    }

    private static void openCounts() {
        Check.about("How many gatherings are open");
        NotedVolume v = new NotedVolume();
        Check.same("none", 0, v.open());
        v.make(0, false, 1);
        v.change(1);
        Check.same("one", 1, v.open());
        v.make(0, false, 2);
        Check.same("two", 2, v.open());
        v.make(0, false, 3);
        v.make(0, false, 4);
        Check.same("three", 3, v.open());
        v.close(2);
        v.close(4);
        v.close(3);
        Check.same("none", 0, v.open());
    }

    private static void openWithoutPower() {
        Check.about("0 while power is off");
        NotedVolume v = States.busy();
        v.cutAfter(0);
        Check.same("power is on still", 3, v.open());
        v.change(3);
        Check.same("off", 0, v.open());
        v.start();
        Check.same("on again", 0, v.open());
    }

    private static void noteEachItem() {
        Check.about("Of the note with a serial: its file (0), sort (1), parent (2), name (3), mark (4), reasons (5).");
        NotedVolume v = States.busy();
        v.change(3);
        Check.note(v, v.head() - 1, 3, 0, 1, 3, 1, 1 + 2);
        Check.note(v, 5, 4, 1, 1, 4, 0, 1);
        States.fail(v, 3);
        Check.note(v, v.head() - 1, 3, 0, 1, 3, 1, 1 + 2);
    }

    private static void noteNotKept() {
        Check.about("NoSuchElementException when it is not kept");
        int head = States.busy().head();
        for (int serial : new int[] {MIN, -15, -1, 0, head, head + 1, head + 15, head + 16, MAX}) {
            Twins.refused("note " + serial, NoSuchElementException.class, States::busy, v -> v.note(serial, 0));
            Twins.refused("note " + serial, NoSuchElementException.class, States::busy, v -> v.note(serial, 6));
        }
        Twins.refused("note 4 of 20", NoSuchElementException.class, () -> States.notes(20), v -> v.note(4, 0));
        Twins.refused("note 4 of 20", NoSuchElementException.class, () -> States.notes(20), v -> v.note(4, -1));
    }

    private static void noteNoSuchWhat() {
        Check.about("IndexOutOfBoundsException when there is no such what");
        for (int what : new int[] {MIN, -1, 6, 7, MAX}) {
            Twins.refused("note 1, " + what, IndexOutOfBoundsException.class, States::busy, v -> v.note(1, what));
        }
    }
}
