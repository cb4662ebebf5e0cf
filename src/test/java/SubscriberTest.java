/** Promises 14 to 19: subscribers, reading and listing. */
final class SubscriberTest {
    public static void main(String[] args) {
        reading();
        readingByMask();
        tooLate();
        subscribing();
        subscribeRefuses();
        listing();
        listingOfAChangingVolume();
        listingBeginsAnew();
        readingAndListingTogether();
        noSuchSubscriber();
        Check.end("SubscriberTest");
    }

    private static void reading() {
        NotedVolume v = new NotedVolume();
        Check.same("read", 0, v.read(0));
        v.make(0, false, 1);
        v.change(1);
        Check.same("read", 1, v.read(0));
        Check.same("cursor", 2, v.cursor(0));
        Check.same("read", 2, v.read(0));
        Check.same("read", 0, v.read(0));
        Check.same("cursor", 3, v.cursor(0));
        Check.same("each has its own", 1, v.cursor(1));
        v.close(1);
        Check.same("read", 3, v.read(0));
        Check.same("read", 1, v.read(2));
    }

    private static void readingByMask() {
        NotedVolume v = new NotedVolume();
        v.subscribe(0, 32);
        v.subscribe(1, 2 + 64);
        v.subscribe(2, 0);
        v.make(0, false, 1);
        v.change(1);
        v.close(1);
        v.rename(1, 0, 2);
        v.change(1);
        Check.same("none removed", 0, v.read(0));
        Check.same("the cursor is HEAD", 7, v.cursor(0));
        Check.same("content", 2, v.read(1));
        Check.same("closed", 3, v.read(1));
        Check.same("content, over two renamings", 6, v.read(1));
        Check.same("cursor", 7, v.cursor(1));
        Check.same("mask 0", 0, v.read(2));
        Check.same("cursor", 7, v.cursor(2));
        v.remove(1);
        Check.same("removed", 7, v.read(0));
        Check.same("its gathering has content", 7, v.read(1));
        Check.same("mask 0", 0, v.read(2));
    }

    private static void tooLate() {
        NotedVolume v = new NotedVolume();
        v.make(0, false, 1);
        changes(v, 15);
        Check.same("tail", 1, v.tail());
        Check.same("just in time", 1, v.read(0));
        v.change(1);
        Check.same("in time", 2, v.cursor(0));
        Check.same("in time", 2, v.read(0));
        Check.same("too late", NotedVolume.NONE, v.read(1));
        Check.same("its cursor stays", 1, v.cursor(1));
        Check.same("still too late", NotedVolume.NONE, v.read(1));
        v.list(1);
        Check.same("cursor", 18, v.cursor(1));
        Check.same("right again", 0, v.read(1));
        v.change(1);
        Check.same("right again", 18, v.read(1));
        v.subscribe(2, 0);
        changes(v, 17);
        Check.same("too late with any mask", NotedVolume.NONE, v.read(2));
        v.subscribe(2, 127);
        Check.same("begun anew", 0, v.read(2));
    }

    private static void subscribing() {
        NotedVolume v = new NotedVolume();
        for (int name = 1; name <= 6; name++) {
            v.make(0, false, name);
        }
        v.follow(0, 3);
        v.list(0);
        v.page(0);
        Check.same("shown", 1, v.shown(0, 0));
        v.subscribe(0, 127);
        Check.same("cursor", v.head(), v.cursor(0));
        for (int k = 0; k < 4; k++) {
            Check.same("no page", NotedVolume.NONE, v.shown(0, k));
        }
        Check.fails("no listing", IllegalStateException.class, () -> v.page(0));
        Check.same("its copy stays", 3, v.copied(0, 3, 2));
        Check.same("the others' cursors stay", 1, v.cursor(1));
    }

    private static void subscribeRefuses() {
        NotedVolume v = new NotedVolume();
        v.make(0, false, 1);
        Check.fails("mask -1", IllegalArgumentException.class, () -> v.subscribe(0, -1));
        Check.fails("mask 128", IllegalArgumentException.class, () -> v.subscribe(0, 128));
        Check.fails("no subscriber first", IndexOutOfBoundsException.class, () -> v.subscribe(3, 128));
        Check.same("nothing happened", 1, v.cursor(0));
        v.subscribe(0, 0);
        v.subscribe(0, 127);
        Check.same("cursor", 2, v.cursor(0));
    }

    private static void listing() {
        NotedVolume v = new NotedVolume();
        Check.fails("no listing yet", IllegalStateException.class, () -> v.page(0));
        v.list(0);
        Check.same("of nothing", 0, v.page(0));
        Check.fails("it has ended", IllegalStateException.class, () -> v.page(0));
        for (int name = 1; name <= 8; name++) {
            v.make(0, false, name);
        }
        v.list(0);
        Check.same("a beginning leaves the page", NotedVolume.NONE, v.shown(0, 0));
        Check.same("cursor", v.head(), v.cursor(0));
        Check.same("page", 4, v.page(0));
        Check.page(v, 0, 1, 2, 3, 4);
        Check.same("page", 4, v.page(0));
        Check.page(v, 0, 5, 6, 7, 8);
        v.remove(2);
        Check.same("a page may have none", 0, v.page(0));
        Check.page(v, 0, -1, -1, -1, -1);
        Check.fails("it has ended", IllegalStateException.class, () -> v.page(0));
        v.list(0);
        v.page(0);
        Check.page(v, 0, 1, 3, 4, 5);
        Check.same("page", 3, v.page(0));
        Check.page(v, 0, 6, 7, 8, -1);
        Check.fails("it has ended", IllegalStateException.class, () -> v.page(0));
        v.list(0);
        Check.page(v, 0, 6, 7, 8, -1);
        Check.same("k 4", NotedVolume.NONE, v.shown(0, 4));
        Check.same("k -1", NotedVolume.NONE, v.shown(0, -1));
        Check.same("k far out", NotedVolume.NONE, v.shown(0, Integer.MAX_VALUE));
    }

    private static void listingOfAChangingVolume() {
        NotedVolume v = new NotedVolume();
        for (int name = 1; name <= 7; name++) {
            v.make(0, false, name);
        }
        v.list(2);
        v.page(2);
        v.remove(1);
        v.remove(6);
        v.make(0, false, 20);
        Check.same("page", 3, v.page(2));
        Check.page(v, 2, 5, 7, 8, -1);
        v.make(0, false, 21);
        Check.fails("it has ended", IllegalStateException.class, () -> v.page(2));
    }

    private static void listingBeginsAnew() {
        NotedVolume v = new NotedVolume();
        for (int name = 1; name <= 5; name++) {
            v.make(0, false, name);
        }
        v.list(0);
        v.page(0);
        v.list(0);
        Check.same("from the first on", 4, v.page(0));
        Check.page(v, 0, 1, 2, 3, 4);
        Check.same("page", 1, v.page(0));
        Check.page(v, 0, 5, -1, -1, -1);
        Check.page(v, 1, -1, -1, -1, -1);
    }

    private static void readingAndListingTogether() {
        NotedVolume v = new NotedVolume();
        for (int name = 1; name <= 5; name++) {
            v.make(0, false, name);
        }
        v.list(0);
        v.change(5);
        int serial = v.head() - 1;
        v.page(0);
        Check.same("read", serial, v.read(0));
        Check.same("page", 1, v.page(0));
        Check.same("read", 0, v.read(0));
    }

    private static void noSuchSubscriber() {
        NotedVolume v = new NotedVolume();
        for (int s : new int[] {-1, 3, Integer.MIN_VALUE, Integer.MAX_VALUE}) {
            Check.fails("subscribe", IndexOutOfBoundsException.class, () -> v.subscribe(s, 1));
            Check.fails("cursor", IndexOutOfBoundsException.class, () -> v.cursor(s));
            Check.fails("read", IndexOutOfBoundsException.class, () -> v.read(s));
            Check.fails("list", IndexOutOfBoundsException.class, () -> v.list(s));
            Check.fails("page", IndexOutOfBoundsException.class, () -> v.page(s));
            Check.fails("shown", IndexOutOfBoundsException.class, () -> v.shown(s, 0));
        }
    }

    private static void changes(NotedVolume v, int n) {
        for (int i = 0; i < n; i++) {
            v.change(1);
        }
    }
}
