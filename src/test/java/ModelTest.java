import java.util.ArrayList;
import java.util.List;
import java.util.Random;

/** Mixed runs of 512 calls, each answer compared with PlainModel's; the seeds are fixed. */
final class ModelTest {
    private static final int RUNS = 1500;
    private static final int CALLS = 512;
    private static final int MOST_TOLD = 5;

    // A name stands as often as its weight in the mix.
    private static final String[] CHANGES = {
        "make", "make", "make", "change", "change", "change", "rename", "rename", "remove", "close"};
    private static final String[] READING = {
        "subscribe", "cursor", "read", "read", "read", "list", "page", "page", "shown", "follow",
        "follow", "follow", "copied", "inStep", "inStep"};
    private static final String[] QUESTIONS = {
        "open", "of", "find", "live", "tail", "head", "note", "note", "isOn"};
    private static final String[] POWER = {"cutAfter", "start", "start"};

    private static int told = 0;

    public static void main(String[] args) {
        int wrong = 0;
        for (int seed = 1; seed <= RUNS; seed++) {
            wrong += run(seed) ? 0 : 1;
        }
        System.out.println("ModelTest: " + RUNS + " runs, " + wrong + " went wrong");
        System.exit(wrong == 0 ? 0 : 1);
    }

    /** One run, told from its first call on when an answer is wrong. */
    private static boolean run(int seed) {
        Random random = new Random(seed);
        NotedVolume volume = new NotedVolume();
        PlainModel model = new PlainModel();
        int near = 3 + random.nextInt(30);
        int latest = 0;
        // With few names makings are refused for them, with many until 20 files live.
        int names = seed % 3 == 0 ? 60 : 2 + random.nextInt(12);
        int changes = 30 + random.nextInt(50);
        List<String> calls = new ArrayList<>();
        for (int i = 0; i < CALLS; i++) {
            String name = pick(random, changes);
            int[] arguments = arguments(name, random, file(random, near, latest), names, model);
            String due = answer(() -> model.call(name, arguments[0], arguments[1], arguments[2]));
            String got = answer(() -> call(volume, name, arguments[0], arguments[1], arguments[2]));
            calls.add(name + " " + arguments[0] + " " + arguments[1] + " " + arguments[2] + ": " + got);
            if (!due.equals(got)) {
                tell(seed, calls, due);
                return false;
            }
            if (name.equals("make") && !got.startsWith("throws")) {
                latest = Math.max(latest, Integer.parseInt(got));
            }
        }
        return true;
    }

    private static void tell(int seed, List<String> calls, String due) {
        told++;
        if (told <= MOST_TOLD) {
            System.out.println("seed " + seed + ", after " + calls.size() + " calls: "
                    + calls.get(calls.size() - 1) + ", due is " + due);
        }
    }

    private static String pick(Random random, int changes) {
        int at = random.nextInt(100);
        String[] from = at < changes ? CHANGES
                : at < changes + (95 - changes) / 2 ? READING
                : at < 95 ? QUESTIONS : POWER;
        return from[random.nextInt(from.length)];
    }

    /** A number among the latest ones, or the next one, or now and then one far off. */
    private static int file(Random random, int near, int latest) {
        if (random.nextInt(30) == 0) {
            return random.nextInt(600) - 50;
        }
        return Math.max(random.nextInt(3) - 1, latest + 1 - random.nextInt(near));
    }

    private static int[] arguments(String name, Random random, int file, int names, PlainModel model) {
        int s = random.nextInt(40) == 0 ? random.nextInt(7) - 2 : random.nextInt(3);
        int other = file - 8 + random.nextInt(16);
        int folder = random.nextBoolean() ? 0 : other;
        int actions = random.nextInt(3) == 0 ? random.nextInt(44) - 1 : random.nextInt(5);
        int title = random.nextInt(30) == 0 ? 0 : 1 + random.nextInt(names);
        switch (name) {
            case "make": return new int[] {folder, random.nextInt(2), title};
            case "rename": return new int[] {file, folder, title};
            case "of": return new int[] {file, random.nextInt(6) - 1, 0};
            case "find": return new int[] {folder, title, 0};
            case "note": return new int[] {head(model) - random.nextInt(20), random.nextInt(8) - 1, 0};
            case "cutAfter": return new int[] {random.nextInt(9) - 2, 0, 0};
            case "subscribe": return new int[] {s, random.nextInt(134) - 3, 0};
            case "shown": return new int[] {s, random.nextInt(6) - 1, 0};
            case "follow": return new int[] {s, actions, 0};
            case "copied": return new int[] {s, file, random.nextInt(6) - 1};
            case "change": case "remove": case "close": return new int[] {file, 0, 0};
            default: return new int[] {s, 0, 0};
        }
    }

    private static int head(PlainModel model) {
        return (int) model.call("head", 0, 0, 0);
    }

    private interface Call {
        long make();
    }

    private static String answer(Call call) {
        try {
            return String.valueOf(call.make());
        } catch (RuntimeException e) {
            return "throws." + e.getClass().getSimpleName();
        }
    }

    private static long call(NotedVolume v, String name, int a, int b, int c) {
        switch (name) {
            case "make": return v.make(a, b == 1, c);
            case "change": return v.change(a);
            case "rename": return v.rename(a, b, c) ? 1 : 0;
            case "remove": return v.remove(a) ? 1 : 0;
            case "close": return v.close(a) ? 1 : 0;
            case "open": return v.open();
            case "of": return v.of(a, b);
            case "find": return v.find(a, b);
            case "live": return v.live();
            case "tail": return v.tail();
            case "head": return v.head();
            case "note": return v.note(a, b);
            case "start": return v.start();
            case "isOn": return v.isOn() ? 1 : 0;
            case "cursor": return v.cursor(a);
            case "read": return v.read(a);
            case "page": return v.page(a);
            case "shown": return v.shown(a, b);
            case "follow": return v.follow(a, b);
            case "copied": return v.copied(a, b, c);
            case "inStep": return v.inStep(a) ? 1 : 0;
            default: return callWithoutAnswer(v, name, a, b);
        }
    }

    private static long callWithoutAnswer(NotedVolume v, String name, int a, int b) {
        switch (name) {
            case "cutAfter": v.cutAfter(a); return 0;
            case "subscribe": v.subscribe(a, b); return 0;
            case "list": v.list(a); return 0;
            default: throw new AssertionError(name);
        }
    }
}
