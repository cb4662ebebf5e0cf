import java.util.NoSuchElementException;

/** Promises 6, 7 and 11 to 13: notes, the ring and the gatherings. */
final class NotesTest {
    public static void main(String[] args) {
        notesOfEachChange();
        closingNotes();
        closeRefuses();
        reasonsAreGathered();
        roomForAFourth();
        noRoomNeededForAnOpenOne();
        roomClosesOneThatIsGone();
        theRingKeepsSixteen();
        noteRefuses();
        Check.end("NotesTest");
    }

    private static void notesOfEachChange() {
        NotedVolume v = new NotedVolume();
        v.make(0, true, 5);
        Check.note(v, 1, 1, 1, 0, 5, 0, 1);
        v.make(1, false, 6);
        Check.note(v, 2, 2, 0, 1, 6, 0, 1);
        v.close(1);
        v.close(2);
        v.change(2);
        Check.note(v, 5, 2, 0, 1, 6, 1, 2);
        v.close(2);
        v.rename(2, 1, 7);
        Check.note(v, 7, 2, 0, 1, 6, 1, 4);
        Check.note(v, 8, 2, 0, 1, 7, 1, 4 + 8);
        v.close(2);
        v.rename(2, 0, 7);
        Check.note(v, 10, 2, 0, 1, 7, 1, 4);
        Check.note(v, 11, 2, 0, 0, 7, 1, 4 + 8 + 16);
        v.close(2);
        v.remove(2);
        Check.note(v, 13, 2, 0, 0, 7, 1, 32);
        Check.same("head", 14, v.head());
    }

    private static void closingNotes() {
        NotedVolume v = new NotedVolume();
        v.make(0, true, 3);
        v.make(1, false, 4);
        v.change(2);
        Check.same("open", 2, v.open());
        Check.yes("close", v.close(1));
        Check.note(v, 4, 1, 1, 0, 3, 0, 64 + 1);
        Check.same("open", 1, v.open());
        v.rename(2, 0, 9);
        Check.yes("close", v.close(2));
        Check.note(v, 7, 2, 0, 0, 9, 1, 64 + 1 + 2 + 4 + 8 + 16);
        Check.same("open", 0, v.open());
        v.remove(2);
        Check.same("open", 1, v.open());
        Check.yes("one that does not live", v.close(2));
        Check.note(v, 9, 2, 0, 0, 0, 0, 64 + 32);
        Check.same("open", 0, v.open());
        Check.same("head", 10, v.head());
    }

    private static void closeRefuses() {
        NotedVolume v = new NotedVolume();
        Check.fails("never made", NoSuchElementException.class, () -> v.close(1));
        Check.fails("the root", NoSuchElementException.class, () -> v.close(0));
        Check.fails("below 0", NoSuchElementException.class, () -> v.close(-1));
        v.make(0, false, 1);
        v.close(1);
        Check.fails("closed", NoSuchElementException.class, () -> v.close(1));
        Check.same("head", 3, v.head());
    }

    private static void reasonsAreGathered() {
        NotedVolume v = new NotedVolume();
        v.make(0, true, 1);
        v.make(0, false, 2);
        v.change(2);
        Check.same("reasons", 1 + 2, v.note(3, 5));
        v.rename(2, 1, 2);
        Check.same("reasons", 1 + 2 + 4, v.note(4, 5));
        Check.same("reasons", 1 + 2 + 4 + 8 + 16, v.note(5, 5));
        v.remove(2);
        Check.same("reasons", 1 + 2 + 4 + 8 + 16 + 32, v.note(6, 5));
        Check.same("another's are its own", 1, v.note(1, 5));
        v.rename(1, 0, 8);
        Check.same("another's are its own", 1 + 4, v.note(7, 5));
        Check.same("open", 2, v.open());
    }

    private static void roomForAFourth() {
        NotedVolume v = new NotedVolume();
        v.make(0, false, 1);
        v.make(0, false, 2);
        v.make(0, false, 3);
        v.change(1);
        Check.same("open", 3, v.open());
        v.make(0, false, 4);
        Check.same("open", 3, v.open());
        Check.note(v, 5, 1, 0, 0, 1, 1, 64 + 1 + 2);
        Check.note(v, 6, 4, 0, 0, 4, 0, 1);
        v.change(1);
        Check.note(v, 7, 2, 0, 0, 2, 0, 64 + 1);
        Check.note(v, 8, 1, 0, 0, 1, 2, 2);
        v.rename(2, 0, 5);
        Check.note(v, 9, 3, 0, 0, 3, 0, 64 + 1);
        Check.note(v, 10, 2, 0, 0, 2, 0, 4);
        Check.note(v, 11, 2, 0, 0, 5, 0, 4 + 8);
        v.remove(3);
        Check.note(v, 12, 4, 0, 0, 4, 0, 64 + 1);
        Check.note(v, 13, 3, 0, 0, 3, 0, 32);
        Check.same("head", 14, v.head());
    }

    private static void noRoomNeededForAnOpenOne() {
        NotedVolume v = new NotedVolume();
        v.make(0, false, 1);
        v.make(0, false, 2);
        v.make(0, false, 3);
        v.change(3);
        v.rename(1, 0, 9);
        v.remove(2);
        Check.same("head", 8, v.head());
        Check.same("open", 3, v.open());
        v.close(1);
        v.change(1);
        v.make(0, false, 4);
        Check.same("opened anew, it is the last", 2, v.note(10, 0));
    }

    private static void roomClosesOneThatIsGone() {
        NotedVolume v = new NotedVolume();
        v.make(0, false, 1);
        v.change(1);
        v.remove(1);
        v.make(0, false, 2);
        v.make(0, false, 3);
        v.make(0, false, 4);
        Check.note(v, 6, 1, 0, 0, 0, 0, 64 + 1 + 2 + 32);
        Check.fails("closed", NoSuchElementException.class, () -> v.close(1));
    }

    private static void theRingKeepsSixteen() {
        NotedVolume v = new NotedVolume();
        v.make(0, false, 1);
        for (int serial = 2; serial <= 16; serial++) {
            v.change(1);
            Check.same("tail", 1, v.tail());
            Check.same("head", serial + 1, v.head());
        }
        Check.same("the first is kept", 1, v.note(1, 5));
        v.change(1);
        Check.same("tail", 2, v.tail());
        Check.same("head", 18, v.head());
        Check.fails("written over", NoSuchElementException.class, () -> v.note(1, 0));
        for (int serial = 2; serial < 18; serial++) {
            Check.same("mark", serial - 1, v.note(serial, 4));
        }
        for (int i = 0; i < 100; i++) {
            v.change(1);
        }
        Check.same("tail", 102, v.tail());
        Check.same("head", 118, v.head());
        Check.same("mark", 101, v.note(102, 4));
        Check.same("mark", 116, v.note(117, 4));
        Check.same("the gathering outlives its notes", 1 + 2, v.note(117, 5));
        Check.fails("HEAD", NoSuchElementException.class, () -> v.note(118, 0));
        Check.fails("TAIL less 1", NoSuchElementException.class, () -> v.note(101, 0));
    }

    private static void noteRefuses() {
        NotedVolume v = new NotedVolume();
        Check.fails("none yet", NoSuchElementException.class, () -> v.note(1, 0));
        v.make(0, false, 1);
        Check.fails("HEAD", NoSuchElementException.class, () -> v.note(2, 0));
        Check.fails("serial 0", NoSuchElementException.class, () -> v.note(0, 0));
        Check.fails("serial -15", NoSuchElementException.class, () -> v.note(-15, 0));
        Check.fails("serial 17", NoSuchElementException.class, () -> v.note(17, 0));
        Check.fails("what 6", IndexOutOfBoundsException.class, () -> v.note(1, 6));
        Check.fails("what -1", IndexOutOfBoundsException.class, () -> v.note(1, -1));
        Check.fails("not kept before no what", NoSuchElementException.class, () -> v.note(2, 6));
    }
}
