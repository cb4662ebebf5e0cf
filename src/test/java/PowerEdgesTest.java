import java.util.NoSuchElementException;
import java.util.function.Consumer;
import java.util.function.Supplier;

/** The edges that 'Terms' names for power, writes and starting, and promises 23 to 25. */
final class PowerEdgesTest {
    private static final int NONE = NotedVolume.NONE;
    private static final int CUT = NotedVolume.CUT;
    private static final int MAX = Integer.MAX_VALUE;

    public static void main(String[] args) {
        onAtFirst();
        writesOfAMaking();
        writesOfAChange();
        writesOfARenaming();
        writesOfARemoval();
        writesOfAClosing();
        roomIsAWriteOfItsOwn();
        whatWasWrittenStands();
        failsWhenOneMoreIsToBeMade();
        writesAreCountedFromCallToCall();
        theLastWriteIsTheChange();
        answeredByCut();
        aCutNumberIsNotGiven();
        aCutNumberIsNotGivenManyTimes();
        startOfNoNotes();
        startOfClosedOnes();
        startLeavesOutThoseClosedLatest();
        startKnowsKeptNotesAlone();
        startForgetsReasonsOfTheForgotten();
        startAtAClosingNoteThatIsLeastKept();
        startInTheOrderOfFirstKeptNotes();
        startInTheOrderBehindTheLatestClosing();
        startFindsAllBefore();
        startWithTheReasonsOfTheLatest();
        startTellsWhatIsNow();
        startAfterACutMaking();
        startAfterACutRenaming();
        startAfterACutRemoval();
        startAfterACutForRoom();
        startWritesCanNotFail();
        cutInPlaceOfWhatWasSaid();
        cutNever();
        cutOfLessThanNone();
        startSaysHowMany();
        startFailsNoMore();
        startWhenItIsOn();
        isOnUntilItFails();
        goesOnWithoutPower();
        readingGoesOnWithoutPower();
        outlivesAFailure();
        Check.end("PowerEdgesTest");
    }

    private static void onAtFirst() {
        Check.about("POWER is on at first.");
        NotedVolume v = new NotedVolume();
        Check.yes("isOn", v.isOn());
        for (int name = 1; name <= 20; name++) {
            v.make(0, false, name);
        }
        Check.yes("it does not fail unsaid", v.isOn());
    }

    /** The change, with power that fails after each number of writes that it has. */
    private static void writes(Supplier<NotedVolume> maker, Consumer<NotedVolume> change, int notes, int deed) {
        for (int n = 0; n <= notes + deed; n++) {
            NotedVolume v = maker.get();
            int head = v.head();
            v.cutAfter(n);
            change.accept(v);
            Check.same("notes after " + n, head + Math.min(n, notes), v.head());
            Check.yes("isOn after " + n, v.isOn() == (n == notes + deed));
        }
    }

    private static void writesOfAMaking() {
        Check.about("a closing note for room, if need be; the change's notes; the change");
        writes(() -> States.closed(1), v -> v.make(0, false, 9), 1, 1);
        writes(States::busy, v -> v.make(4, true, 9), 2, 1);
    }

    private static void writesOfAChange() {
        Check.about("a closing note for room, if need be; the change's notes; the change");
        writes(() -> States.closed(1), v -> v.change(1), 1, 1);
        writes(States::busy, v -> v.change(3), 1, 1);
        writes(States::busy, v -> v.change(2), 2, 1);
    }

    private static void writesOfARenaming() {
        Check.about("a closing note for room, if need be; the change's notes; the change");
        writes(() -> States.closed(1), v -> v.rename(1, 0, 9), 2, 1);
        writes(States::busy, v -> v.rename(3, 0, 9), 2, 1);
        writes(States::busy, v -> v.rename(2, 1, 9), 3, 1);
    }

    private static void writesOfARemoval() {
        Check.about("a closing note for room, if need be; the change's notes; the change");
        writes(() -> States.closed(1), v -> v.remove(1), 1, 1);
        writes(States::busy, v -> v.remove(4), 1, 1);
        writes(States::busy, v -> v.remove(2), 2, 1);
    }

    private static void writesOfAClosing() {
        Check.about("(but for closing, where there is nothing to do)");
        writes(States::busy, v -> v.close(3), 1, 0);
        writes(States::busy, v -> v.close(5), 1, 0);
    }

    private static void roomIsAWriteOfItsOwn() {
        Check.about("a closing note for room, if need be; the change's notes; the change");
        NotedVolume v = States.busy();
        int head = v.head();
        v.cutAfter(1);
        Check.same("change", CUT, v.change(2));
        Check.note(v, head, 3, 0, 1, 3, 0, 1 + 64);
        Check.same("nothing else", head + 1, v.head());
        Check.same("its gathering is not closed again", 2, v.start());
        Check.same("the second", 4, v.note(head + 1, 0));
        Check.same("the third", 5, v.note(head + 2, 0));
    }

    private static void whatWasWrittenStands() {
        Check.about("what was written stands, the change does not happen (unless it was its last write)");
        NotedVolume v = States.closed(1);
        v.cutAfter(1);
        Check.same("change", CUT, v.change(1));
        Check.note(v, 3, 1, 0, 0, 1, 1, 2);
        Check.same("the mark", 0, v.of(1, 3));
        v.start();
        v.cutAfter(2);
        Check.no("rename", v.rename(1, 0, 9));
        Check.note(v, 5, 1, 0, 0, 1, 0, 4);
        Check.note(v, 6, 1, 0, 0, 9, 0, 4 + 8);
        Check.same("the name", 1, v.of(1, 2));
        Check.same("find", NONE, v.find(0, 9));
    }

    private static void failsWhenOneMoreIsToBeMade() {
        Check.about("it fails when one more is to be made");
        NotedVolume v = new NotedVolume();
        v.cutAfter(0);
        Check.yes("said", v.isOn());
        Check.fails("a refused call", IllegalArgumentException.class, () -> v.make(0, false, 0));
        Check.yes("none was to be made", v.isOn());
        v.cutAfter(2);
        Check.same("make", 1, v.make(0, false, 1));
        Check.yes("both are made", v.isOn());
        Check.no("rename to the same", v.rename(1, 0, 1));
        Check.same("follow", 1, v.follow(0, 40));
        Check.yes("none was to be made", v.isOn());
        Check.same("change", CUT, v.change(1));
        Check.no("one more", v.isOn());
    }

    private static void writesAreCountedFromCallToCall() {
        Check.about("Power fails after n writes from now on");
        NotedVolume v = new NotedVolume();
        v.make(0, false, 1);
        v.cutAfter(8);
        Check.same("two", 1, v.change(1));
        Check.yes("one", v.close(1));
        Check.yes("three", v.rename(1, 0, 2));
        Check.yes("two", v.remove(1));
        Check.yes("eight in all", v.isOn());
        Check.no("the ninth", v.close(1));
        Check.no("isOn", v.isOn());
    }

    private static void theLastWriteIsTheChange() {
        Check.about("what was written stands, the change does not happen (unless it was its last write)");
        NotedVolume v = new NotedVolume();
        v.cutAfter(2);
        Check.same("make", 1, v.make(0, false, 1));
        v.cutAfter(2);
        Check.same("change", 1, v.change(1));
        v.cutAfter(3);
        Check.yes("rename", v.rename(1, 0, 2));
        v.cutAfter(1);
        Check.yes("close", v.close(1));
        v.cutAfter(2);
        Check.yes("remove", v.remove(1));
        Check.yes("isOn", v.isOn());
        Check.same("live", 0, v.live());
        Check.same("the next one fails", CUT, v.make(0, false, 1));
    }

    private static void answeredByCut() {
        Check.about("and is answered by CUT");
        for (int n = 0; n <= 1; n++) {
            NotedVolume made = States.closed(1);
            made.cutAfter(n);
            Check.same("make", -2, made.make(0, false, 2));
            NotedVolume changed = States.closed(1);
            changed.cutAfter(n);
            Check.same("change", -2, changed.change(1));
            NotedVolume renamed = States.closed(1);
            renamed.cutAfter(n);
            Check.no("rename", renamed.rename(1, 0, 2));
            NotedVolume removed = States.closed(1);
            removed.cutAfter(n);
            Check.no("remove", removed.remove(1));
        }
    }

    private static void aCutNumberIsNotGiven() {
        Check.about("Its number is not given then, when it was a making: the next one gets it.");
        for (int n = 0; n <= 2; n++) {
            NotedVolume v = States.busy();
            v.cutAfter(n);
            Check.same("make", CUT, v.make(0, true, 9));
            v.start();
            Check.fails("it does not live", NoSuchElementException.class, () -> v.of(6, 0));
            Check.same("the next one", 6, v.make(1, false, 8));
            Check.same("parent", 1, v.of(6, 1));
            Check.same("the one behind it", 7, v.make(0, true, 9));
        }
    }

    private static void aCutNumberIsNotGivenManyTimes() {
        Check.about("Its number is not given then, when it was a making: the next one gets it.");
        NotedVolume v = new NotedVolume();
        for (int i = 0; i < 20; i++) {
            v.cutAfter(1);
            Check.same("make", CUT, v.make(0, false, 1));
            Check.same("its note", 1, v.note(v.head() - 1, 0));
            Check.same("start", 1, v.start());
        }
        Check.same("make", 1, v.make(0, false, 1));
    }

    private static void startOfNoNotes() {
        Check.about("gatherings are those which the notes that are kept leave open");
        NotedVolume v = new NotedVolume();
        v.cutAfter(0);
        v.make(0, false, 1);
        Check.same("start", 0, v.start());
        Check.yes("isOn", v.isOn());
        Check.same("head", 1, v.head());
    }

    private static void startOfClosedOnes() {
        Check.about("of each file with a kept note, whose latest one has not CLOSED");
        NotedVolume v = States.closed(5);
        int head = v.head();
        States.fail(v, 1);
        Check.same("start", 0, v.start());
        Check.same("head", head, v.head());
    }

    private static void startLeavesOutThoseClosedLatest() {
        Check.about("of each file with a kept note, whose latest one has not CLOSED");
        NotedVolume v = States.closed(4);
        v.change(2);
        v.change(3);
        v.change(4);
        v.close(3);
        int head = v.head();
        States.fail(v, 2);
        Check.same("start", 2, v.start());
        Check.note(v, head, 2, 0, 0, 2, 1, 2 + 64);
        Check.note(v, head + 1, 4, 0, 0, 4, 1, 2 + 64);
        Check.same("head", head + 2, v.head());
    }

    private static void startKnowsKeptNotesAlone() {
        Check.about("gatherings are those which the notes that are kept leave open");
        for (int more = 14; more <= 16; more++) {
            NotedVolume v = new NotedVolume();
            v.make(0, false, 1);
            v.make(0, false, 2);
            for (int i = 0; i < more; i++) {
                v.change(2);
            }
            Check.same("open", 2, v.open());
            int head = v.head();
            States.fail(v, 2);
            Check.same("start", more == 14 ? 2 : 1, v.start());
            Check.same("closed first", more == 14 ? 1 : 2, v.note(head, 0));
            Check.same("head", head + (more == 14 ? 2 : 1), v.head());
        }
    }

    private static void startForgetsReasonsOfTheForgotten() {
        Check.about("gatherings are those which the notes that are kept leave open");
        NotedVolume v = new NotedVolume();
        v.make(0, false, 1);
        v.make(0, false, 2);
        for (int i = 0; i < 16; i++) {
            v.change(2);
        }
        States.fail(v, 2);
        v.start();
        v.change(1);
        Check.same("its making is forgotten", 2, v.note(v.head() - 1, 5));
    }

    private static void startAtAClosingNoteThatIsLeastKept() {
        Check.about("whose latest one has not CLOSED");
        for (int more = 14; more <= 15; more++) {
            NotedVolume v = new NotedVolume();
            v.make(0, false, 1);
            v.close(1);
            v.make(0, false, 2);
            for (int i = 0; i < more; i++) {
                v.change(2);
            }
            Check.same("file of the least kept", more == 14 ? 1 : 2, v.note(v.tail(), 0));
            States.fail(v, 2);
            Check.same("start", 1, v.start());
            Check.same("closed", 2, v.note(v.head() - 1, 0));
        }
    }

    private static void startInTheOrderOfFirstKeptNotes() {
        Check.about("in the order of their first kept notes");
        NotedVolume v = new NotedVolume();
        v.make(0, false, 1);
        v.make(0, false, 2);
        v.make(0, false, 3);
        for (int i = 0; i < 12; i++) {
            v.change(2);
        }
        v.change(1);
        v.change(3);
        v.change(1);
        int head = v.head();
        Check.same("the makings of 1 and 2 are not kept", 3, v.tail());
        States.fail(v, 1);
        Check.same("start", 3, v.start());
        Check.same("first", 3, v.note(head, 0));
        Check.same("second", 2, v.note(head + 1, 0));
        Check.same("third, though it was opened first", 1, v.note(head + 2, 0));
    }

    private static void startInTheOrderBehindTheLatestClosing() {
        Check.about("behind the latest one of that file that has");
        NotedVolume v = new NotedVolume();
        v.make(0, false, 1);
        v.make(0, false, 2);
        v.close(1);
        v.change(1);
        v.close(1);
        v.make(0, false, 3);
        v.change(1);
        v.change(2);
        int head = v.head();
        States.fail(v, 1);
        Check.same("start", 3, v.start());
        Check.note(v, head, 2, 0, 0, 2, 1, 1 + 2 + 64);
        Check.note(v, head + 1, 3, 0, 0, 3, 0, 1 + 64);
        Check.note(v, head + 2, 1, 0, 0, 1, 2, 2 + 64);
    }

    private static void startFindsAllBefore() {
        Check.about("each is closed at once, in this order (found out before any is)");
        NotedVolume v = new NotedVolume();
        v.make(0, false, 1);
        v.make(0, false, 2);
        v.make(0, false, 3);
        for (int i = 0; i < 13; i++) {
            v.change(3);
        }
        States.fail(v, 3);
        Check.same("tail", 1, v.tail());
        Check.same("start", 3, v.start());
        Check.note(v, 17, 1, 0, 0, 1, 0, 1 + 64);
        Check.note(v, 18, 2, 0, 0, 2, 0, 1 + 64);
        Check.note(v, 19, 3, 0, 0, 3, 13, 1 + 2 + 64);
        Check.same("head", 20, v.head());
    }

    private static void startWithTheReasonsOfTheLatest() {
        Check.about("by a note with CLOSED and the reasons of its latest note");
        NotedVolume v = new NotedVolume();
        v.make(0, false, 1);
        v.rename(1, 0, 2);
        for (int i = 0; i < 16; i++) {
            v.change(1);
        }
        States.fail(v, 1);
        Check.same("start", 1, v.start());
        Check.note(v, v.head() - 1, 1, 0, 0, 2, 16, 1 + 2 + 4 + 8 + 64);
    }

    private static void startTellsWhatIsNow() {
        Check.about("and what the file is like now, as above");
        NotedVolume v = States.busy();
        v.change(3);
        v.cutAfter(1);
        v.change(3);
        int head = v.head();
        Check.same("its note", 2, v.note(head - 1, 4));
        Check.same("start", 3, v.start());
        Check.note(v, head, 3, 0, 1, 3, 1, 1 + 2 + 64);
        Check.note(v, head + 1, 4, 1, 1, 4, 0, 1 + 64);
        Check.note(v, head + 2, 5, 0, 0, 0, 0, 1 + 32 + 64);
    }

    private static void startAfterACutMaking() {
        Check.about("and what the file is like now, as above");
        NotedVolume v = States.closed(1);
        v.cutAfter(1);
        v.make(0, true, 9);
        Check.note(v, 3, 2, 1, 0, 9, 0, 1);
        Check.same("start", 1, v.start());
        Check.note(v, 4, 2, 0, 0, 0, 0, 1 + 64);
        v.make(0, false, 8);
        Check.note(v, 5, 2, 0, 0, 8, 0, 1);
    }

    private static void startAfterACutRenaming() {
        Check.about("and what the file is like now, as above");
        for (int n = 1; n <= 2; n++) {
            NotedVolume v = States.busy();
            v.close(4);
            int head = v.head();
            v.cutAfter(n);
            v.rename(4, 0, 9);
            Check.same("start", 3, v.start());
            Check.note(v, head + n + 2, 4, 1, 1, 4, 0, (n == 1 ? 4 : 4 + 8 + 16) + 64);
        }
    }

    private static void startAfterACutRemoval() {
        Check.about("and what the file is like now, as above");
        NotedVolume v = States.closed(2);
        v.cutAfter(1);
        v.remove(2);
        Check.same("start", 1, v.start());
        Check.note(v, v.head() - 1, 2, 0, 0, 2, 0, 32 + 64);
        v.change(2);
        Check.same("it lives, in a new gathering", 2, v.note(v.head() - 1, 5));
    }

    private static void startAfterACutForRoom() {
        Check.about("gatherings are those which the notes that are kept leave open");
        for (int n = 0; n <= 2; n++) {
            NotedVolume v = States.busy();
            int head = v.head();
            v.cutAfter(n);
            v.make(0, false, 9);
            Check.same("start after " + n, n == 1 ? 2 : 3, v.start());
            Check.same("the first", n == 0 ? 3 : 4, v.note(head + n, 0));
            Check.same("the last", n == 2 ? 6 : 5, v.note(v.head() - 1, 0));
        }
    }

    private static void startWritesCanNotFail() {
        Check.about("(These are no writes that could fail.)");
        for (int n = 0; n <= 2; n++) {
            NotedVolume v = States.busy();
            States.fail(v, 3);
            v.cutAfter(n);
            Check.same("start", 3, v.start());
            Check.yes("isOn", v.isOn());
            Check.same("open", 0, v.open());
        }
    }

    private static void cutInPlaceOfWhatWasSaid() {
        Check.about("Power fails after n writes from now on (in place of what was said before)");
        NotedVolume v = States.closed(1);
        v.cutAfter(1);
        v.cutAfter(3);
        Check.same("later than said before", 1, v.change(1));
        v.cutAfter(9);
        v.cutAfter(1);
        Check.same("sooner than said before", CUT, v.change(1));
        NotedVolume w = States.closed(1);
        w.cutAfter(3);
        w.change(1);
        w.cutAfter(2);
        Check.same("from now on, whatever was left", 2, w.change(1));
        Check.same("from now on, whatever was left", CUT, w.change(1));
    }

    private static void cutNever() {
        Check.about("never with NONE");
        NotedVolume v = States.closed(1);
        v.cutAfter(0);
        v.cutAfter(NONE);
        for (int mark = 1; mark <= 100; mark++) {
            Check.same("change", mark, v.change(1));
        }
        v.cutAfter(MAX);
        Check.same("change", 101, v.change(1));
        Check.yes("isOn", v.isOn());
        v.cutAfter(0);
        Check.same("said anew", CUT, v.change(1));
        v.cutAfter(NONE);
        Check.no("that is no start", v.isOn());
    }

    private static void cutOfLessThanNone() {
        Check.about("IllegalArgumentException when n is less than that");
        for (int n : new int[] {Integer.MIN_VALUE, -3, -2}) {
            Twins.refused("cutAfter " + n, IllegalArgumentException.class, States::busy, v -> v.cutAfter(n));
            Twins.refused("cutAfter " + n, IllegalArgumentException.class, States::off, v -> v.cutAfter(n));
            Twins.refused("cutAfter " + n, IllegalArgumentException.class, NotedVolume::new, v -> v.cutAfter(n));
        }
    }

    private static void startSaysHowMany() {
        Check.about("how many gatherings were closed");
        for (int n = 0; n <= 3; n++) {
            NotedVolume v = States.closed(4);
            for (int file = 1; file <= n; file++) {
                v.change(file);
            }
            v.cutAfter(0);
            v.change(n == 0 ? 1 : n);
            Check.same("start", n, v.start());
            Check.same("open", 0, v.open());
        }
    }

    private static void startFailsNoMore() {
        Check.about("Power is on again, and doesn't fail until that is said anew");
        NotedVolume v = States.closed(1);
        v.cutAfter(1);
        v.change(1);
        Check.no("isOn", v.isOn());
        v.cutAfter(1);
        v.start();
        Check.yes("isOn", v.isOn());
        for (int mark = 1; mark <= 40; mark++) {
            Check.same("change", mark, v.change(1));
        }
        v.cutAfter(3);
        Check.same("said anew", 41, v.change(1));
        Check.same("said anew", CUT, v.change(1));
    }

    private static void startWhenItIsOn() {
        Check.about("NONE, changing nothing, when it is on");
        Twins.unchanged("start", NONE, NotedVolume::new, v -> v.start());
        Twins.unchanged("start", NONE, States::busy, v -> v.start());
        Twins.unchanged("start", NONE, States::full, v -> v.start());
        NotedVolume v = States.busy();
        States.fail(v, 3);
        v.start();
        int head = v.head();
        Check.same("twice", NONE, v.start());
        Check.same("head", head, v.head());
        v.cutAfter(0);
        Check.same("on the edge", NONE, v.start());
        Check.same("what was said still stands", CUT, v.change(3));
    }

    private static void isOnUntilItFails() {
        Check.about("Whether power is on.");
        NotedVolume v = States.closed(1);
        v.cutAfter(2);
        v.change(1);
        Check.yes("no write is left", v.isOn());
        v.close(1);
        Check.no("failed", v.isOn());
        Check.no("asked again", v.isOn());
        v.start();
        Check.yes("started", v.isOn());
    }

    private static void goesOnWithoutPower() {
        Check.about("(All questions, reading, listing and following go on without it.)");
        NotedVolume v = States.off();
        Check.no("isOn", v.isOn());
        Check.same("of", 3, v.of(3, 2));
        Check.same("find", 4, v.find(1, 4));
        Check.same("live", 4, v.live());
        Check.same("tail", 1, v.tail());
        Check.same("head", 10, v.head());
        Check.note(v, 9, 3, 0, 1, 3, 1, 1 + 2);
        Check.same("cursor", 2, v.cursor(0));
        Check.same("shown", 4, v.shown(1, 3));
        Check.copy(v, 2, 2, 0, 0, 2, 0);
        Check.no("inStep", v.inStep(0));
        Check.fails("of", NoSuchElementException.class, () -> v.of(5, 0));
        Check.fails("note", NoSuchElementException.class, () -> v.note(10, 0));
        Check.fails("cursor", IndexOutOfBoundsException.class, () -> v.cursor(3));
    }

    private static void readingGoesOnWithoutPower() {
        Check.about("(All questions, reading, listing and following go on without it.)");
        NotedVolume v = States.off();
        Check.same("read", 2, v.read(0));
        Check.same("a page of a listing that went on", 0, v.page(1));
        v.list(1);
        Check.same("cursor", 10, v.cursor(1));
        Check.same("page", 4, v.page(1));
        Check.same("follow", 4, v.follow(2, 40));
        Check.copy(v, 2, 3, 0, 1, 3, 1);
        v.subscribe(0, 2);
        Check.same("cursor", 10, v.cursor(0));
        Check.same("none behind it", 0, v.read(0));
        Check.same("start", 3, v.start());
        Check.same("the closing of 3 has CONTENT", 10, v.read(0));
        Check.same("the mask that was set without power", 0, v.read(0));
    }

    private static void outlivesAFailure() {
        Check.about("both outlive power failures");
        NotedVolume v = States.closed(2);
        v.subscribe(0, 32);
        v.follow(1, 3);
        v.read(2);
        States.fail(v, 1);
        v.start();
        Check.same("cursor 0", 5, v.cursor(0));
        Check.same("cursor 1", 4, v.cursor(1));
        Check.same("cursor 2", 2, v.cursor(2));
        Check.copy(v, 1, 2, 0, 0, 2, 0);
        v.change(1);
        v.remove(2);
        Check.same("the mask", 6, v.read(0));
        Check.same("the mask at first", 2, v.read(2));
    }
}
