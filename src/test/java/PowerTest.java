import java.util.NoSuchElementException;

/** Promises 23 to 25: power failures, in each of the changes, and starting again. */
final class PowerTest {
    public static void main(String[] args) {
        cutInMake();
        cutInMakeWithRoom();
        cutInChange();
        cutInRename();
        cutInRemove();
        cutInClose();
        offRefusesChanges();
        questionsGoOnWithoutPower();
        cutIsSaidAnew();
        refusedCallsWriteNothing();
        startClosesInOrder();
        startFindsAllBeforeItClosesAny();
        startKnowsKeptNotesOnly();
        startBehindAClosingNote();
        startLeavesTheRestAlone();
        Check.end("PowerTest");
    }

    private static void cutInMake() {
        for (int n = 0; n <= 2; n++) {
            NotedVolume v = new NotedVolume();
            v.cutAfter(n);
            Check.same("make", n < 2 ? NotedVolume.CUT : 1, v.make(0, true, 4));
            Check.yes("isOn", v.isOn() == (n == 2));
            Check.same("head", n == 0 ? 1 : 2, v.head());
            Check.same("live", n == 2 ? 1 : 0, v.live());
            Check.same("open", n == 2 ? 1 : 0, v.open());
            if (n < 2) {
                Check.same("start", n, v.start());
                Check.same("the next one gets the number", 1, v.make(0, false, 4));
            }
            if (n == 1) {
                Check.same("closed as one that does not live", 0, v.note(2, 1));
                Check.same("reasons", 64 + 1, v.note(2, 5));
            }
        }
    }

    private static void cutInMakeWithRoom() {
        for (int n = 0; n <= 3; n++) {
            NotedVolume v = threeOpen();
            v.cutAfter(n);
            Check.same("make", n < 3 ? NotedVolume.CUT : 4, v.make(0, false, 9));
            Check.same("head", 4 + Math.min(n, 2), v.head());
            if (n >= 1) {
                Check.same("closed for room", 64 + 1, v.note(4, 5));
            }
            if (n < 3) {
                Check.same("start", n == 1 ? 2 : 3, v.start());
            }
        }
    }

    private static void cutInChange() {
        for (int n = 0; n <= 2; n++) {
            NotedVolume v = oneClosed();
            v.cutAfter(n);
            Check.same("change", n < 2 ? NotedVolume.CUT : 1, v.change(1));
            Check.same("mark", n < 2 ? 0 : 1, v.of(1, 3));
            Check.same("head", n == 0 ? 3 : 4, v.head());
            v.start();
            Check.same("the next change", n < 2 ? 1 : NotedVolume.CUT, v.change(1));
        }
        NotedVolume v = oneClosed();
        v.cutAfter(1);
        v.change(1);
        v.follow(0, 40);
        Check.same("a follower believes the note", 1, v.copied(0, 1, 3));
        Check.same("start", 1, v.start());
        Check.same("mark as it is", 0, v.note(4, 4));
        Check.same("reasons", 64 + 2, v.note(4, 5));
        v.follow(0, 40);
        Check.yes("in step", v.inStep(0));
    }

    private static void cutInRename() {
        for (int n = 0; n <= 3; n++) {
            NotedVolume v = oneClosed();
            v.cutAfter(n);
            Check.yes("rename", v.rename(1, 0, 8) == (n == 3));
            Check.yes("isOn", v.isOn() == (n == 3));
            Check.same("name", n == 3 ? 8 : 5, v.of(1, 2));
            Check.same("head", 3 + Math.min(n, 2), v.head());
            if (n < 3) {
                Check.same("start", n == 0 ? 0 : 1, v.start());
            }
            if (n == 1 || n == 2) {
                Check.same("reasons", 64 + (n == 1 ? 4 : 4 + 8), v.note(3 + n, 5));
                Check.same("name", 5, v.note(3 + n, 3));
            }
        }
    }

    private static void cutInRemove() {
        for (int n = 0; n <= 2; n++) {
            NotedVolume v = oneClosed();
            v.cutAfter(n);
            Check.yes("remove", v.remove(1) == (n == 2));
            Check.same("live", n == 2 ? 0 : 1, v.live());
            v.follow(0, 40);
            if (n < 2) {
                Check.same("start", n, v.start());
                v.follow(0, 40);
                Check.yes("in step", v.inStep(0));
            }
            if (n == 1) {
                Check.same("it lives", 5, v.note(4, 3));
                Check.same("reasons", 64 + 32, v.note(4, 5));
            }
        }
    }

    private static void cutInClose() {
        NotedVolume v = threeOpen();
        v.cutAfter(0);
        Check.no("close", v.close(2));
        Check.no("isOn", v.isOn());
        Check.same("head", 4, v.head());
        Check.same("start", 3, v.start());
        NotedVolume w = threeOpen();
        w.cutAfter(1);
        Check.yes("closing is one write", w.close(2));
        Check.yes("isOn", w.isOn());
        Check.no("the next one fails", w.close(1));
        Check.same("start", 2, w.start());
    }

    private static void offRefusesChanges() {
        NotedVolume v = threeOpen();
        v.cutAfter(0);
        v.change(1);
        Check.same("open", 0, v.open());
        Check.fails("make", IllegalStateException.class, () -> v.make(0, false, 0));
        Check.fails("change", IllegalStateException.class, () -> v.change(99));
        Check.fails("rename", IllegalStateException.class, () -> v.rename(99, 0, 0));
        Check.fails("rename to the same", IllegalStateException.class, () -> v.rename(1, 0, 1));
        Check.fails("remove", IllegalStateException.class, () -> v.remove(99));
        Check.fails("close", IllegalStateException.class, () -> v.close(99));
        Check.fails("close", IllegalStateException.class, () -> v.close(1));
        v.cutAfter(NotedVolume.NONE);
        Check.no("saying never does not start", v.isOn());
        Check.same("head", 4, v.head());
    }

    private static void questionsGoOnWithoutPower() {
        NotedVolume v = threeOpen();
        v.subscribe(2, 1);
        v.cutAfter(1);
        v.change(1);
        Check.no("isOn", v.isOn());
        Check.same("of", 0, v.of(1, 3));
        Check.same("find", 2, v.find(0, 2));
        Check.same("live", 3, v.live());
        Check.same("note", 1 + 2, v.note(4, 5));
        Check.same("read", 1, v.read(0));
        Check.same("follow", 4, v.follow(1, 40));
        Check.same("copied", 1, v.copied(1, 1, 3));
        Check.no("inStep", v.inStep(1));
        v.list(0);
        Check.same("page", 3, v.page(0));
        Check.same("shown", 3, v.shown(0, 2));
        Check.same("start", 3, v.start());
        Check.same("the cursor outlives it", 5, v.cursor(1));
        Check.same("the cursor outlives it", 4, v.cursor(2));
        Check.same("the mask outlives it", 4, v.read(2));
        Check.same("the copy outlives it", 3, v.copied(1, 3, 2));
        v.subscribe(0, 127);
        Check.same("cursor", v.head(), v.cursor(0));
    }

    private static void cutIsSaidAnew() {
        NotedVolume v = new NotedVolume();
        Check.fails("-2", IllegalArgumentException.class, () -> v.cutAfter(-2));
        Check.fails("far below", IllegalArgumentException.class, () -> v.cutAfter(Integer.MIN_VALUE));
        v.cutAfter(1);
        v.cutAfter(4);
        Check.same("make", 1, v.make(0, false, 1));
        Check.fails("refused, so it changes nothing", IllegalArgumentException.class, () -> v.cutAfter(-2));
        Check.same("start changes nothing", NotedVolume.NONE, v.start());
        Check.same("make", 2, v.make(0, false, 2));
        Check.yes("no write is to be made", v.isOn());
        Check.same("make", NotedVolume.CUT, v.make(0, false, 3));
        v.cutAfter(0);
        Check.same("start", 2, v.start());
        Check.same("it fails no more", 1, v.change(1));
        v.cutAfter(0);
        v.cutAfter(NotedVolume.NONE);
        Check.same("never", 2, v.change(1));
        v.cutAfter(Integer.MAX_VALUE);
        Check.same("late", 3, v.change(1));
    }

    private static void refusedCallsWriteNothing() {
        NotedVolume v = threeOpen();
        v.cutAfter(0);
        Check.no("rename to the same", v.rename(1, 0, 1));
        Check.fails("name taken", UnsupportedOperationException.class, () -> v.rename(1, 0, 2));
        Check.fails("name taken", UnsupportedOperationException.class, () -> v.make(0, false, 2));
        Check.fails("no file", NoSuchElementException.class, () -> v.change(9));
        Check.fails("no file", NoSuchElementException.class, () -> v.remove(9));
        Check.fails("none open", NoSuchElementException.class, () -> v.close(9));
        v.follow(0, 40);
        v.list(1);
        v.page(1);
        Check.yes("isOn", v.isOn());
        Check.same("open", 3, v.open());
    }

    private static void startClosesInOrder() {
        NotedVolume v = threeOpen();
        v.close(1);
        v.change(1);
        v.change(2);
        v.cutAfter(0);
        v.remove(3);
        Check.same("start", 3, v.start());
        Check.same("file", 2, v.note(7, 0));
        Check.same("reasons", 64 + 1 + 2, v.note(7, 5));
        Check.same("file", 3, v.note(8, 0));
        Check.same("file", 1, v.note(9, 0));
        Check.same("only those behind its closing", 64 + 2, v.note(9, 5));
        Check.same("mark", 1, v.note(9, 4));
        Check.same("open", 0, v.open());
        Check.same("head", 10, v.head());
        Check.yes("isOn", v.isOn());
        Check.same("start", NotedVolume.NONE, v.start());
    }

    private static void startFindsAllBeforeItClosesAny() {
        NotedVolume v = threeOpen();
        for (int i = 0; i < 13; i++) {
            v.change(1);
        }
        Check.same("tail", 1, v.tail());
        v.cutAfter(0);
        v.change(1);
        Check.same("start", 3, v.start());
        Check.same("file", 1, v.note(17, 0));
        Check.same("its only note was written over", 2, v.note(18, 0));
        Check.same("its only note was written over", 3, v.note(19, 0));
        Check.same("tail", 4, v.tail());
    }

    private static void startKnowsKeptNotesOnly() {
        NotedVolume v = threeOpen();
        for (int i = 0; i < 14; i++) {
            v.change(3);
        }
        v.change(1);
        Check.same("open", 3, v.open());
        Check.same("tail", 3, v.tail());
        v.cutAfter(0);
        v.change(1);
        Check.same("start", 2, v.start());
        Check.same("by the first that is kept", 3, v.note(19, 0));
        Check.same("though it was opened first", 1, v.note(20, 0));
        Check.same("reasons", 64 + 1 + 2, v.note(20, 5));
        Check.same("head", 21, v.head());
        Check.fails("forgotten", NoSuchElementException.class, () -> v.close(2));
    }

    private static void startBehindAClosingNote() {
        NotedVolume v = oneClosed();
        v.make(0, false, 6);
        for (int i = 0; i < 14; i++) {
            v.change(2);
        }
        Check.same("a closing note is the first that is kept", 64 + 1, v.note(v.tail(), 5));
        v.cutAfter(0);
        v.change(2);
        Check.same("start", 1, v.start());
        Check.same("file", 2, v.note(18, 0));
    }

    private static void startLeavesTheRestAlone() {
        NotedVolume v = threeOpen();
        v.remove(2);
        v.cutAfter(0);
        v.make(0, true, 7);
        Check.same("start", 3, v.start());
        Check.same("live", 2, v.live());
        Check.same("one that does not live", 0, v.note(6, 3));
        Check.same("make", 4, v.make(0, true, 7));
        Check.same("a gathering of its own", 1, v.note(8, 5));
        Check.same("change", 1, v.change(1));
        Check.same("a new gathering", 2, v.note(9, 5));
    }

    private static NotedVolume threeOpen() {
        NotedVolume v = new NotedVolume();
        v.make(0, false, 1);
        v.make(0, false, 2);
        v.make(0, false, 3);
        return v;
    }

    private static NotedVolume oneClosed() {
        NotedVolume v = new NotedVolume();
        v.make(0, false, 5);
        v.close(1);
        return v;
    }
}
