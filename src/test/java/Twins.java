import java.util.function.Consumer;
import java.util.function.Function;
import java.util.function.Supplier;

/**
 * Whether a call changes anything: an object that got it is compared with a twin that did not,
 * in all that can be asked and in what a fixed run of further calls brings to light (the next
 * number, the writes that are left, whether a listing goes on). One object gets under 512 calls.
 */
final class Twins {
    private static final int FILES = 6;
    private static final int SUBSCRIBERS = 3;

    private Twins() {
    }

    /** The call throws what is due, and changes nothing. */
    static void refused(String call, Class<? extends RuntimeException> due,
            Supplier<NotedVolume> maker, Consumer<NotedVolume> asks) {
        NotedVolume asked = maker.get();
        Check.fails(call, due, () -> asks.accept(asked));
        Check.sameText("all behind " + call, told(maker.get()), told(asked));
    }

    /** The call answers what is due, and changes nothing. */
    static void unchanged(String call, long due,
            Supplier<NotedVolume> maker, Function<NotedVolume, Number> asks) {
        NotedVolume asked = maker.get();
        Check.same(call, due, asks.apply(asked).longValue());
        Check.sameText("all behind " + call, told(maker.get()), told(asked));
    }

    private static String told(NotedVolume v) {
        StringBuilder text = new StringBuilder();
        tellNow(text, v);
        tellLater(text, v);
        return text.toString();
    }

    private static void tellNow(StringBuilder text, NotedVolume v) {
        text.append(v.isOn()).append(" live ").append(v.live()).append(" open ").append(v.open());
        for (int file = 1; file <= FILES; file++) {
            tellFile(text.append("; file ").append(file), v, file);
        }
        tellNotes(text, v);
        for (int s = 0; s < SUBSCRIBERS; s++) {
            text.append("; subscriber ").append(s).append(" at ").append(v.cursor(s));
            text.append(v.inStep(s) ? " in step" : " out of step");
            tellPage(text, v, s);
            for (int file = 1; file <= FILES; file++) {
                tellCopied(text.append(", copy of ").append(file), v, s, file);
            }
        }
    }

    private static void tellLater(StringBuilder text, NotedVolume v) {
        for (int s = 0; s < SUBSCRIBERS; s++) {
            text.append("; then ").append(s).append(" reads ").append(v.read(s));
            int subscriber = s;
            text.append(" pages ").append(answer(() -> v.page(subscriber)));
            tellPage(text, v, s);
        }
        for (int name = 901; name <= 908; name++) {
            int made = name;
            text.append("; makes ").append(answer(() -> v.make(0, false, made)));
        }
        text.append("; starts ").append(v.start()).append(" open ").append(v.open());
        tellNotes(text, v);
    }

    private static void tellFile(StringBuilder text, NotedVolume v, int file) {
        for (int what = 0; what < 4; what++) {
            int item = what;
            text.append(' ').append(answer(() -> v.of(file, item)));
        }
    }

    private static void tellCopied(StringBuilder text, NotedVolume v, int s, int file) {
        for (int what = 0; what < 4; what++) {
            int item = what;
            text.append(' ').append(answer(() -> v.copied(s, file, item)));
        }
    }

    private static void tellNotes(StringBuilder text, NotedVolume v) {
        int head = v.head();
        for (int serial = v.tail(); serial < head; serial++) {
            text.append("; note ").append(serial);
            for (int what = 0; what < 6; what++) {
                text.append(' ').append(v.note(serial, what));
            }
        }
    }

    private static void tellPage(StringBuilder text, NotedVolume v, int s) {
        for (int k = 0; k < 4; k++) {
            text.append(" ").append(v.shown(s, k));
        }
    }

    private static String answer(Supplier<Integer> call) {
        try {
            return String.valueOf(call.get());
        } catch (RuntimeException e) {
            return e.getClass().getSimpleName();
        }
    }
}
