import java.util.NoSuchElementException;

/** Promises 20 to 22: followers and their copies. */
final class FollowerTest {
    public static void main(String[] args) {
        followsNotes();
        followsNotesWhateverTheMask();
        followsRemovals();
        closedPutsInWhatIsNow();
        tooLateBeginsAListing();
        pagesTakeOutWhatIsGone();
        followsAListingOfItsSubscriber();
        inStepLooksAtEverything();
        copyKeepsWhatWasNotTold();
        refuses();
        Check.end("FollowerTest");
    }

    private static void followsNotes() {
        NotedVolume v = new NotedVolume();
        Check.same("nothing to do", 0, v.follow(0, 40));
        v.make(0, true, 1);
        v.make(1, false, 2);
        v.change(2);
        v.rename(2, 0, 3);
        Check.same("follow", 0, v.follow(0, 0));
        Check.same("follow", 2, v.follow(0, 2));
        Check.copy(v, 0, 1, 1, 0, 1, 0);
        Check.copy(v, 0, 2, 0, 1, 2, 0);
        Check.same("cursor", 3, v.cursor(0));
        Check.same("content", 1, v.follow(0, 1));
        Check.copy(v, 0, 2, 0, 1, 2, 1);
        Check.same("renamed from", 1, v.follow(0, 1));
        Check.copy(v, 0, 2, 0, 1, 2, 1);
        Check.no("not yet", v.inStep(0));
        Check.same("renamed to", 1, v.follow(0, 9));
        Check.copy(v, 0, 2, 0, 0, 3, 1);
        Check.yes("in step", v.inStep(0));
        Check.no("the others have not followed", v.inStep(1));
        Check.same("it read as its subscriber", 0, v.read(0));
        Check.same("the others read for themselves", 1, v.read(1));
        Check.same("what was read is not followed", 4, v.follow(1, 40));
    }

    private static void followsNotesWhateverTheMask() {
        NotedVolume v = new NotedVolume();
        v.subscribe(1, 0);
        v.make(0, false, 1);
        v.change(1);
        Check.same("follow", 2, v.follow(1, 40));
        Check.yes("in step", v.inStep(1));
        v.change(1);
        Check.same("the mask stays", 0, v.read(1));
    }

    private static void followsRemovals() {
        NotedVolume v = new NotedVolume();
        v.make(0, false, 1);
        v.remove(1);
        v.follow(0, 1);
        Check.same("in it", 1, v.copied(0, 1, 2));
        v.follow(0, 1);
        Check.fails("out of it", NoSuchElementException.class, () -> v.copied(0, 1, 2));
        v.close(1);
        Check.same("follow", 1, v.follow(0, 5));
        Check.yes("in step", v.inStep(0));
    }

    private static void closedPutsInWhatIsNow() {
        NotedVolume v = new NotedVolume();
        v.make(0, false, 1);
        v.close(1);
        v.change(1);
        v.rename(1, 0, 5);
        v.follow(0, 2);
        Check.copy(v, 0, 1, 0, 0, 5, 1);
        Check.yes("in step, notes before", v.inStep(0));
        v.follow(0, 1);
        Check.copy(v, 0, 1, 0, 0, 1, 1);
        Check.no("as the note says", v.inStep(0));
        v.follow(0, 2);
        Check.yes("in step", v.inStep(0));
        v.make(0, false, 2);
        v.close(2);
        v.remove(2);
        v.follow(0, 1);
        Check.same("made", 2, v.copied(0, 2, 2));
        v.follow(0, 1);
        Check.fails("out, as it does not live now", NoSuchElementException.class, () -> v.copied(0, 2, 2));
    }

    private static void tooLateBeginsAListing() {
        NotedVolume v = new NotedVolume();
        for (int name = 1; name <= 5; name++) {
            v.make(0, false, name);
        }
        for (int i = 0; i < 20; i++) {
            v.change(5);
        }
        Check.same("a beginning", 1, v.follow(0, 1));
        Check.same("cursor", v.head(), v.cursor(0));
        Check.fails("nothing else yet", NoSuchElementException.class, () -> v.copied(0, 1, 0));
        Check.same("no page yet", NotedVolume.NONE, v.shown(0, 0));
        Check.same("a page", 1, v.follow(0, 1));
        Check.same("shown", 4, v.shown(0, 3));
        Check.copy(v, 0, 4, 0, 0, 4, 0);
        Check.fails("not yet shown", NoSuchElementException.class, () -> v.copied(0, 5, 0));
        v.change(5);
        Check.same("the last page and a note", 2, v.follow(0, 40));
        Check.same("shown", 5, v.shown(0, 0));
        Check.copy(v, 0, 5, 0, 0, 5, 21);
        Check.yes("in step", v.inStep(0));
    }

    private static void pagesTakeOutWhatIsGone() {
        NotedVolume v = new NotedVolume();
        for (int name = 1; name <= 9; name++) {
            v.make(0, false, name);
            v.follow(0, 40);
        }
        Check.yes("in step", v.inStep(0));
        v.subscribe(0, 127);
        v.remove(2);
        v.remove(7);
        v.remove(8);
        v.remove(9);
        v.change(1);
        v.list(0);
        v.follow(0, 1);
        Check.same("as it is", 1, v.copied(0, 1, 3));
        Check.fails("2 went", NoSuchElementException.class, () -> v.copied(0, 2, 0));
        Check.same("5 was shown", 5, v.shown(0, 3));
        Check.same("6 lies behind the page", 6, v.copied(0, 6, 2));
        Check.same("7 lies behind the page", 7, v.copied(0, 7, 2));
        Check.same("the last page", 1, v.follow(0, 1));
        Check.same("6 stays", 6, v.copied(0, 6, 2));
        Check.same("what was shown before stays", 5, v.copied(0, 5, 2));
        Check.fails("9 went", NoSuchElementException.class, () -> v.copied(0, 9, 0));
        Check.yes("in step", v.inStep(0));
    }

    private static void followsAListingOfItsSubscriber() {
        NotedVolume v = new NotedVolume();
        for (int name = 1; name <= 6; name++) {
            v.make(0, false, name);
        }
        v.list(1);
        v.page(1);
        Check.same("the rest of the listing", 1, v.follow(1, 40));
        Check.fails("a subscriber's page is not copied", NoSuchElementException.class, () -> v.copied(1, 4, 0));
        Check.same("the follower's is", 5, v.copied(1, 5, 2));
        Check.same("its page is shown", 6, v.shown(1, 1));
        Check.fails("the listing has ended", IllegalStateException.class, () -> v.page(1));
        v.list(1);
        v.follow(1, 1);
        Check.same("the follower's page counts for the subscriber", 2, v.page(1));
    }

    private static void inStepLooksAtEverything() {
        NotedVolume v = new NotedVolume();
        v.make(0, true, 1);
        v.make(0, false, 2);
        v.follow(0, 40);
        Check.yes("in step", v.inStep(0));
        v.change(2);
        Check.no("mark", v.inStep(0));
        v.follow(0, 40);
        v.rename(2, 0, 5);
        Check.no("name", v.inStep(0));
        v.follow(0, 40);
        v.rename(2, 1, 5);
        Check.no("parent", v.inStep(0));
        v.follow(0, 40);
        Check.yes("in step", v.inStep(0));
        v.remove(2);
        Check.no("one too many", v.inStep(0));
        v.follow(0, 40);
        v.make(0, false, 7);
        Check.no("one too few", v.inStep(0));
        v.subscribe(0, 127);
        v.remove(3);
        v.follow(0, 40);
        v.close(3);
        v.make(0, false, 7);
        v.subscribe(0, 127);
        Check.no("another one", v.inStep(0));
    }

    private static void copyKeepsWhatWasNotTold() {
        NotedVolume v = new NotedVolume();
        for (int file = 1; file <= 80; file++) {
            v.make(0, false, 1);
            v.follow(0, 40);
            v.remove(file);
            v.close(file);
            v.subscribe(0, 127);
        }
        for (int file = 1; file <= 80; file++) {
            Check.same("name of " + file, 1, v.copied(0, file, 2));
        }
        v.list(0);
        Check.same("one page", 1, v.follow(0, 1));
        Check.yes("in step", v.inStep(0));
    }

    private static void refuses() {
        NotedVolume v = new NotedVolume();
        v.make(0, false, 1);
        Check.fails("n -1", IllegalArgumentException.class, () -> v.follow(0, -1));
        Check.fails("n 41", IllegalArgumentException.class, () -> v.follow(0, 41));
        Check.fails("no subscriber first", IndexOutOfBoundsException.class, () -> v.follow(3, 41));
        Check.same("n 40", 1, v.follow(0, 40));
        Check.fails("what 4", IndexOutOfBoundsException.class, () -> v.copied(0, 1, 4));
        Check.fails("what -1", IndexOutOfBoundsException.class, () -> v.copied(0, 1, -1));
        Check.fails("no what first", IndexOutOfBoundsException.class, () -> v.copied(0, 2, 4));
        Check.fails("not in it", NoSuchElementException.class, () -> v.copied(0, 2, 0));
        Check.fails("the root", NoSuchElementException.class, () -> v.copied(0, 0, 0));
        for (int s : new int[] {-1, 3, Integer.MIN_VALUE, Integer.MAX_VALUE}) {
            Check.fails("follow", IndexOutOfBoundsException.class, () -> v.follow(s, 1));
            Check.fails("copied", IndexOutOfBoundsException.class, () -> v.copied(s, 9, 0));
            Check.fails("inStep", IndexOutOfBoundsException.class, () -> v.inStep(s));
        }
    }
}
