import java.util.function.Consumer;

/** The edges that 'Terms' names for subscribers, reading and listings, and promises 14 to 19. */
final class ReadingEdgesTest {
    private static final int NONE = NotedVolume.NONE;
    private static final int MIN = Integer.MIN_VALUE;
    private static final int MAX = Integer.MAX_VALUE;
    private static final int[] NO_SUBSCRIBERS = {MIN, -1, 3, 4, MAX};

    public static void main(String[] args) {
        threeSubscribers();
        atFirst();
        tooLateBelowTail();
        tooLateStays();
        aListingEndsBeingTooLate();
        beginningAnewEndsBeingTooLate();
        tooLateWhateverTheMask();
        theFirstFromTheCursorOn();
        eachReasonOfAMask();
        oneReasonOfTheMaskIsEnough();
        noneIsHead();
        noneThatTheMaskHas();
        readingRoundTheRing();
        listingBeginsWithNoneShown();
        listingBeginsAtHead();
        pagesOfUpToFour();
        fewerThanFourEndIt();
        pagesOfThoseThatLiveWhenAsked();
        pagesAboveAllShownBefore();
        readingAndListingDoNotHinder();
        subscribersDoNotHinder();
        subscribeBeginsAnew();
        subscribeLeavesTheCopy();
        subscribeMaskOutOfRange();
        cursorOfEach();
        readAnswers();
        listTwice();
        pageSaysHowMany();
        pageWithoutAListing();
        shownNone();
        shownOfAShortPage();
        shownOfTheFollower();
        shownIsLeftByABeginning();
        noSuchSubscriber();
        Check.end("ReadingEdgesTest");
    }

    private static void threeSubscribers() {
        Check.about("SUBSCRIBERS 0 .. 2");
        NotedVolume v = States.notes(1);
        Check.same("read 0", 1, v.read(0));
        Check.same("read 2", 1, v.read(2));
        Check.same("read 1", 1, v.read(1));
    }

    private static void atFirst() {
        Check.about("(at first HEAD 1 and 127)");
        for (int s = 0; s <= 2; s++) {
            NotedVolume v = new NotedVolume();
            Check.same("cursor", 1, v.cursor(s));
            v.make(0, false, 1);
            Check.same("cursor", 1, v.cursor(s));
            Check.same("created", 1, v.read(s));
            v.close(1);
            Check.same("closed", 2, v.read(s));
            v.change(1);
            Check.same("content alone", 3, v.read(s));
            v.close(1);
            v.read(s);
            v.rename(1, 0, 2);
            Check.same("renamed from alone", 5, v.read(s));
            Check.same("renamed to", 6, v.read(s));
            v.close(1);
            v.read(s);
            v.remove(1);
            Check.same("removed alone", 8, v.read(s));
        }
    }

    private static void tooLateBelowTail() {
        Check.about("when the cursor is below TAIL, it is TOO LATE");
        NotedVolume v = States.notes(16);
        Check.same("at TAIL", 1, v.tail());
        Check.same("in time", 1, v.read(0));
        States.changes(v, 1);
        Check.same("one below TAIL", NONE, v.read(1));
        Check.same("at TAIL", 2, v.cursor(0));
        Check.same("in time", 2, v.read(0));
        States.changes(v, 2);
        Check.same("one below TAIL", 4, v.tail());
        Check.same("too late", NONE, v.read(0));
        Check.same("its cursor", 3, v.cursor(0));
    }

    private static void tooLateStays() {
        Check.about("and stays so until a listing begins");
        NotedVolume v = States.notes(17);
        for (int i = 0; i < 3; i++) {
            Check.same("too late", NONE, v.read(0));
            Check.same("its cursor", 1, v.cursor(0));
            v.change(1);
        }
        States.fail(v, 1);
        Check.same("without power", NONE, v.read(0));
        v.start();
        Check.same("started", NONE, v.read(0));
        v.remove(1);
        v.close(1);
        Check.same("its cursor", 1, v.cursor(0));
        Check.same("too late", NONE, v.read(0));
    }

    private static void aListingEndsBeingTooLate() {
        Check.about("and stays so until a listing begins");
        NotedVolume v = States.notes(30);
        Check.same("too late", NONE, v.read(0));
        v.list(0);
        Check.same("none from HEAD on", 0, v.read(0));
        v.change(1);
        Check.same("the next one", 31, v.read(0));
        Check.same("another one is too late still", NONE, v.read(1));
    }

    private static void beginningAnewEndsBeingTooLate() {
        Check.about("A subscriber begins anew: its mask, its cursor HEAD");
        NotedVolume v = States.notes(30);
        Check.same("too late", NONE, v.read(0));
        v.subscribe(0, 127);
        Check.same("none from HEAD on", 0, v.read(0));
        v.change(1);
        Check.same("the next one", 31, v.read(0));
    }

    private static void tooLateWhateverTheMask() {
        Check.about("when the cursor is below TAIL, it is TOO LATE");
        NotedVolume v = new NotedVolume();
        v.subscribe(0, 0);
        v.subscribe(1, 32);
        v.make(0, false, 1);
        States.changes(v, 16);
        Check.same("mask 0", NONE, v.read(0));
        Check.same("mask 32", NONE, v.read(1));
        Check.same("its cursor", 1, v.cursor(1));
    }

    private static void theFirstFromTheCursorOn() {
        Check.about("the first note from the cursor on that has one of the reasons in the mask is got, "
                + "and the cursor is one more than its serial");
        NotedVolume v = States.notes(5);
        for (int serial = 1; serial <= 5; serial++) {
            Check.same("read", serial, v.read(0));
            Check.same("cursor", serial + 1, v.cursor(0));
        }
        Check.same("read", 0, v.read(0));
        v.close(1);
        Check.same("read", 6, v.read(0));
        Check.same("cursor", 7, v.cursor(0));
    }

    private static void eachReasonOfAMask() {
        Check.about("the first note from the cursor on that has one of the reasons in the mask is got");
        // The notes: 1 made, 2 changed, 3 and 4 renamed, 5 and 6 moved, 7 removed, 8 closed.
        int[] first = {1, 2, 3, 4, 6, 7, 8};
        for (int bit = 0; bit < first.length; bit++) {
            NotedVolume v = new NotedVolume();
            v.make(0, true, 9);
            v.close(1);
            int before = v.head() - 1;
            v.subscribe(0, 1 << bit);
            v.make(0, false, 1);
            v.change(2);
            v.rename(2, 0, 2);
            v.rename(2, 1, 2);
            v.remove(2);
            v.close(2);
            Check.same("mask " + (1 << bit), before + first[bit], v.read(0));
            Check.same("cursor", before + first[bit] + 1, v.cursor(0));
        }
    }

    private static void oneReasonOfTheMaskIsEnough() {
        Check.about("that has one of the reasons in the mask");
        NotedVolume v = States.closed(1);
        v.subscribe(0, 2 + 32);
        v.subscribe(1, 127 - 2);
        v.subscribe(2, 127 - 2 - 64);
        v.change(1);
        Check.same("content of content and removed", 3, v.read(0));
        Check.same("all but content", 0, v.read(1));
        v.close(1);
        Check.same("closed", 4, v.read(1));
        Check.same("all but content and closed", 0, v.read(2));
        Check.same("its cursor", 5, v.cursor(2));
    }

    private static void noneIsHead() {
        Check.about("when there is none, the cursor is HEAD");
        NotedVolume v = new NotedVolume();
        Check.same("of no notes", 0, v.read(0));
        Check.same("cursor", 1, v.cursor(0));
        v.make(0, false, 1);
        v.read(0);
        Check.same("of no more notes", 0, v.read(0));
        Check.same("cursor", 2, v.cursor(0));
    }

    private static void noneThatTheMaskHas() {
        Check.about("when there is none, the cursor is HEAD");
        NotedVolume v = new NotedVolume();
        v.subscribe(0, 32);
        v.subscribe(1, 0);
        v.make(0, false, 1);
        States.changes(v, 15);
        Check.same("mask 32", 0, v.read(0));
        Check.same("cursor", 17, v.cursor(0));
        Check.same("mask 0", 0, v.read(1));
        Check.same("cursor", 17, v.cursor(1));
        v.remove(1);
        Check.same("removed", 17, v.read(0));
        Check.same("mask 0", 0, v.read(1));
    }

    private static void readingRoundTheRing() {
        Check.about("the first note from the cursor on that has one of the reasons in the mask is got");
        NotedVolume v = States.notes(20);
        v.list(0);
        States.changes(v, 16);
        for (int serial = 21; serial <= 36; serial++) {
            Check.same("read", serial, v.read(0));
        }
        Check.same("read", 0, v.read(0));
        Check.same("cursor", 37, v.cursor(0));
    }

    private static void listingBeginsWithNoneShown() {
        Check.about("A LISTING begins with no file shown, and the cursor becomes HEAD.");
        NotedVolume v = States.closed(6);
        v.list(0);
        v.page(0);
        v.list(0);
        Check.same("from the first on", 4, v.page(0));
        Check.page(v, 0, 1, 2, 3, 4);
        v.page(0);
        v.list(0);
        Check.same("from the first on", 4, v.page(0));
        Check.page(v, 0, 1, 2, 3, 4);
        v.subscribe(0, 127);
        v.list(0);
        v.page(0);
        Check.page(v, 0, 1, 2, 3, 4);
    }

    private static void listingBeginsAtHead() {
        Check.about("A LISTING begins with no file shown, and the cursor becomes HEAD.");
        NotedVolume v = new NotedVolume();
        v.list(0);
        Check.same("of no notes", 1, v.cursor(0));
        v.make(0, false, 1);
        v.list(0);
        Check.same("of notes not read", 2, v.cursor(0));
        v.change(1);
        v.page(0);
        Check.same("a page leaves it", 2, v.cursor(0));
        v.list(0);
        Check.same("begun again", 3, v.cursor(0));
        Check.same("only its own", 1, v.cursor(1));
    }

    private static void pagesOfUpToFour() {
        Check.about("A PAGE shows the next up to 4 files that live when it is asked for");
        for (int n = 0; n <= 20; n++) {
            NotedVolume v = States.closed(n);
            v.list(0);
            for (int first = 1; first <= n + 1; first += 4) {
                int due = Math.min(4, n + 1 - first);
                Check.same("page of " + n, due, v.page(0));
                for (int k = 0; k < 4; k++) {
                    Check.same("shown " + k, k < due ? first + k : NONE, v.shown(0, k));
                }
            }
        }
    }

    private static void fewerThanFourEndIt() {
        Check.about("one that has fewer than 4 ends the listing");
        for (int n = 0; n <= 9; n++) {
            NotedVolume v = States.closed(n);
            v.list(0);
            for (int page = 0; page < n / 4; page++) {
                Check.same("a full page of " + n, 4, v.page(0));
            }
            Check.same("the last page of " + n, n % 4, v.page(0));
            Check.fails("it has ended", IllegalStateException.class, () -> v.page(0));
        }
    }

    private static void pagesOfThoseThatLiveWhenAsked() {
        Check.about("A PAGE shows the next up to 4 files that live when it is asked for");
        NotedVolume v = States.closed(8);
        v.list(0);
        v.remove(2);
        Check.same("page", 4, v.page(0));
        Check.page(v, 0, 1, 3, 4, 5);
        v.remove(1);
        v.remove(6);
        Check.page(v, 0, 1, 3, 4, 5);
        v.make(0, true, 20);
        Check.same("page", 3, v.page(0));
        Check.page(v, 0, 7, 8, 9, NONE);
        NotedVolume w = States.closed(4);
        w.list(0);
        w.page(0);
        w.make(0, false, 5);
        Check.same("made behind a full page", 1, w.page(0));
        Check.page(w, 0, 5, NONE, NONE, NONE);
    }

    private static void pagesAboveAllShownBefore() {
        Check.about("with numbers above all that were shown before, by number");
        NotedVolume v = new NotedVolume();
        v.make(0, true, 50);
        for (int name = 9; name >= 2; name--) {
            v.make(name % 2, false, name);
        }
        v.rename(9, 0, 1);
        v.list(0);
        v.page(0);
        Check.page(v, 0, 1, 2, 3, 4);
        v.remove(4);
        v.rename(3, 0, 60);
        v.page(0);
        Check.page(v, 0, 5, 6, 7, 8);
        v.page(0);
        Check.page(v, 0, 9, NONE, NONE, NONE);
    }

    private static void readingAndListingDoNotHinder() {
        Check.about("(Reading and listing don't hinder each other.)");
        NotedVolume v = States.closed(6);
        v.list(0);
        Check.same("nothing to read", 0, v.read(0));
        v.change(6);
        Check.same("page", 4, v.page(0));
        Check.same("read", 13, v.read(0));
        Check.page(v, 0, 1, 2, 3, 4);
        v.change(1);
        Check.same("page", 2, v.page(0));
        Check.same("read", 14, v.read(0));
        Check.page(v, 0, 5, 6, NONE, NONE);
        v.list(0);
        States.changes(v, 17);
        Check.same("too late while a listing goes on", NONE, v.read(0));
        Check.same("page", 4, v.page(0));
        Check.same("a page does not end it", NONE, v.read(0));
        Check.same("page", 2, v.page(0));
    }

    private static void subscribersDoNotHinder() {
        Check.about("SUBSCRIBERS 0 .. 2 have a CURSOR, a serial, and a MASK of reasons");
        NotedVolume v = States.closed(5);
        v.list(0);
        v.page(0);
        v.list(1);
        Check.same("from the first on", 4, v.page(1));
        v.subscribe(1, 0);
        Check.same("page", 1, v.page(0));
        Check.page(v, 0, 5, NONE, NONE, NONE);
        Check.page(v, 1, NONE, NONE, NONE, NONE);
        Check.same("cursor", 1, v.cursor(2));
        Check.same("mask", 1, v.read(2));
    }

    private static void subscribeBeginsAnew() {
        Check.about("A subscriber begins anew: its mask, its cursor HEAD, no listing going on, "
                + "no page (shown is NONE); its copy stays.");
        NotedVolume v = States.closed(6);
        v.list(0);
        v.page(0);
        v.change(1);
        v.subscribe(0, 32);
        Check.same("cursor", v.head(), v.cursor(0));
        Check.page(v, 0, NONE, NONE, NONE, NONE);
        Check.fails("no listing", IllegalStateException.class, () -> v.page(0));
        v.change(1);
        Check.same("its mask", 0, v.read(0));
        v.remove(1);
        Check.same("its mask", v.head() - 1, v.read(0));
        v.subscribe(0, 1);
        v.make(0, false, 9);
        Check.same("its new mask", v.head() - 1, v.read(0));
    }

    private static void subscribeLeavesTheCopy() {
        Check.about("its copy stays");
        NotedVolume v = States.closed(2);
        v.follow(0, 40);
        v.subscribe(0, 0);
        Check.copy(v, 0, 1, 0, 0, 1, 0);
        Check.yes("in step", v.inStep(0));
        Check.no("another's", v.inStep(1));
    }

    private static void subscribeMaskOutOfRange() {
        Check.about("IllegalArgumentException when mask is not 0 .. 127");
        for (int mask : new int[] {MIN, -1, 128, 255, MAX}) {
            for (int s = 0; s <= 2; s++) {
                int subscriber = s;
                Twins.refused("mask " + mask, IllegalArgumentException.class, States::busy,
                        v -> v.subscribe(subscriber, mask));
            }
        }
        NotedVolume v = new NotedVolume();
        v.subscribe(0, 0);
        v.subscribe(1, 127);
        v.make(0, false, 1);
        Check.same("mask 0", 0, v.read(0));
        Check.same("mask 127", 1, v.read(1));
    }

    private static void cursorOfEach() {
        Check.about("A subscriber's cursor.");
        NotedVolume v = States.busy();
        Check.same("cursor 0", 2, v.cursor(0));
        Check.same("cursor 1", 6, v.cursor(1));
        Check.same("cursor 2", 6, v.cursor(2));
    }

    private static void readAnswers() {
        Check.about("Reads: the serial of the note that was got, 0 when there is none, NONE when it is too late.");
        NotedVolume v = new NotedVolume();
        Check.same("none", 0, v.read(0));
        v.make(0, false, 1);
        Check.same("the serial", 1, v.read(0));
        States.changes(v, 17);
        Check.same("too late", -1, v.read(0));
    }

    private static void listTwice() {
        Check.about("A listing begins.");
        NotedVolume v = States.closed(5);
        v.list(0);
        v.list(0);
        Check.same("page", 4, v.page(0));
        v.list(0);
        Check.same("page", 4, v.page(0));
        Check.same("page", 1, v.page(0));
    }

    private static void pageSaysHowMany() {
        Check.about("A page: how many files it shows.");
        NotedVolume v = States.busy();
        v.cutAfter(NONE);
        Check.same("none behind the fourth", 0, v.page(1));
        v.make(4, false, 9);
        v.list(1);
        Check.same("four, folders too, in folders too", 4, v.page(1));
        Check.page(v, 1, 1, 2, 3, 4);
        Check.same("one", 1, v.page(1));
        Check.page(v, 1, 6, NONE, NONE, NONE);
    }

    private static void pageWithoutAListing() {
        Check.about("IllegalStateException when no listing goes on");
        Twins.refused("page", IllegalStateException.class, NotedVolume::new, v -> v.page(0));
        Twins.refused("page", IllegalStateException.class, States::busy, v -> v.page(0));
        Twins.refused("page", IllegalStateException.class, States::off, v -> v.page(2));
        NotedVolume v = States.closed(2);
        v.list(1);
        Check.fails("another's goes on", IllegalStateException.class, () -> v.page(0));
        v.page(1);
        v.make(0, false, 3);
        Check.fails("ended, whatever is made", IllegalStateException.class, () -> v.page(1));
        Check.page(v, 1, 1, 2, NONE, NONE);
    }

    private static void shownNone() {
        Check.about("The number of file k (0 .. 3) of the subscriber's latest page");
        NotedVolume v = States.closed(6);
        Check.page(v, 0, NONE, NONE, NONE, NONE);
        v.list(0);
        v.page(0);
        v.page(0);
        Check.page(v, 0, 5, 6, NONE, NONE);
        for (int k : new int[] {MIN, -2, -1, 4, 5, MAX}) {
            Check.same("shown(0, " + k + ")", NONE, v.shown(0, k));
        }
        v.remove(5);
        Check.same("one that is gone since", 5, v.shown(0, 0));
    }

    private static void shownOfAShortPage() {
        Check.about("NONE when there is none");
        for (int n = 0; n <= 3; n++) {
            NotedVolume v = States.closed(4);
            v.list(0);
            v.page(0);
            for (int file = 4; file > n; file--) {
                v.remove(file);
            }
            v.list(0);
            v.page(0);
            for (int k = 0; k < 4; k++) {
                Check.same("shown " + k + " of " + n, k < n ? k + 1 : NONE, v.shown(0, k));
            }
        }
    }

    private static void shownOfTheFollower() {
        Check.about("(also those of its follower)");
        NotedVolume v = States.closed(5);
        v.list(0);
        v.follow(0, 1);
        Check.page(v, 0, 1, 2, 3, 4);
        v.follow(0, 1);
        Check.page(v, 0, 5, NONE, NONE, NONE);
        v.change(5);
        v.follow(0, 1);
        Check.page(v, 0, 5, NONE, NONE, NONE);
        Check.page(v, 1, NONE, NONE, NONE, NONE);
    }

    private static void shownIsLeftByABeginning() {
        Check.about("a listing that begins leaves the page that was");
        NotedVolume v = States.closed(5);
        v.list(0);
        v.page(0);
        v.list(0);
        Check.page(v, 0, 1, 2, 3, 4);
        v.page(0);
        v.page(0);
        v.list(0);
        Check.page(v, 0, 5, NONE, NONE, NONE);
        v.follow(0, 2);
        States.changes(v, 20);
        Check.same("a beginning of the follower", 1, v.follow(0, 1));
        Check.page(v, 0, 5, NONE, NONE, NONE);
    }

    private static void noSuchSubscriber() {
        Check.about("IndexOutOfBoundsException when there is no such subscriber");
        for (int s : NO_SUBSCRIBERS) {
            refusesSubscriber("subscribe " + s, v -> v.subscribe(s, 127));
            refusesSubscriber("subscribe first " + s, v -> v.subscribe(s, 128));
            refusesSubscriber("cursor " + s, v -> v.cursor(s));
            refusesSubscriber("read " + s, v -> v.read(s));
            refusesSubscriber("list " + s, v -> v.list(s));
            refusesSubscriber("page " + s, v -> v.page(s));
            refusesSubscriber("shown " + s, v -> v.shown(s, 0));
            refusesSubscriber("shown " + s, v -> v.shown(s, 4));
        }
    }

    private static void refusesSubscriber(String call, Consumer<NotedVolume> asks) {
        Twins.refused(call, IndexOutOfBoundsException.class, States::busy, asks);
    }
}
