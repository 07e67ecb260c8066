import java.lang.reflect.InvocationTargetException;
import java.lang.reflect.Method;
import java.util.ArrayList;
import java.util.Collections;
import java.util.Comparator;
import java.util.List;
import java.util.Set;
import java.util.function.Supplier;

/**
 * What the tests share: answers beside those that are due, texts of swaps, objects that have been used, and all that
 * can be seen of an object. A call is told as a text: its name and its numbers (a boolean as 1 or 0).
 */
abstract class Checks {
    static final int THROWN = SwapModel.THROWN;
    // Sizes 2 (a word), 11, 4, 18 (too big), 4, 7; homes 12, 4, 4, 8.
    static final String HEAD = "swap frames 4 step 2 big 12";
    static final String DATA = ";data 7 x 16;data 1,2,3,4,1,2,3,4,1,2,3,4,1,2,3,4;data 5 x 8,6 x 8"
        + ";data 1,2,3,4,5,6,7,8,9,10,11,12,13,14,15,16;data 9 x 12,4 x 4;data 1,1,2,3,9 x 12";
    static final String OPS = ";store 0 1;store 1 2;load 0;drop 1;store 2 3";
    // Sizes 8 and 4: zones of a frame, with two slots and with four.
    static final String ROOMY = "swap frames 24 step 4 big 15;data 1,2,3,4,5,9 x 11;data 1 x 8,2 x 8";

    /** No number tells why these are refused, so that they leave TROUBLE alone. */
    static final Set<String> WITHOUT_TROUBLE = Set.of("feed", "fault", "where", "onDisk", "size", "trouble");
    private static final Set<String> OF_TRUTH = Set.of("hold", "release", "undo");
    private static final List<String> QUESTIONS = questions();
    // An object is promised for 512 calls: some make it, the others may ask.
    private static final int ASKED_OF_ONE = 250;
    private static final int[] FAR = {Integer.MIN_VALUE, -(1 << 28), 1 << 28, Integer.MAX_VALUE};

    private static int wrong;
    private static String test = "";

    // ---- tests and answers

    /** Runs all tests of a class: what its name begins with is the promise. */
    static void runAll(Class<?> tests) {
        List<Method> found = testsOf(tests);
        for (Method m : found) {
            begin(m.getName());
            try {
                m.setAccessible(true);
                m.invoke(null);
            } catch (InvocationTargetException e) {
                fail("ended with " + e.getCause());
            } catch (IllegalAccessException e) {
                throw new IllegalStateException(e);
            }
        }
        end(found.size() + " tests hold");
    }

    static List<Method> testsOf(Class<?> tests) {
        List<Method> found = new ArrayList<>();
        for (Method m : tests.getDeclaredMethods()) {
            if (m.getName().matches("promise[0-9]{2}[A-Z]\\w*") && m.getParameterCount() == 0) {
                found.add(m);
            }
        }
        found.sort(Comparator.comparing(Method::getName));
        return found;
    }

    static void begin(String name) {
        test = name;
    }

    static void end(String good) {
        System.out.println(wrong == 0 ? good : wrong + " answers are not as promised");
        if (wrong != 0) {
            System.exit(1);
        }
    }

    static void fail(String what) {
        wrong++;
        System.out.println(test + ": " + what);
    }

    static void due(String call, int got, int want) {
        if (got != want) {
            fail(call + " answered " + got + ", due is " + want);
        }
    }

    static void due(String call, boolean got, boolean want) {
        due(call, got ? 1 : 0, want ? 1 : 0);
    }

    static void refused(SqueezedSwap x, String call, int got, int trouble) {
        due(call, got, -1);
        due("trouble() behind " + call, x.trouble(), trouble);
    }

    static void refused(SqueezedSwap x, String call, boolean got, int trouble) {
        due(call, got, false);
        due("trouble() behind " + call, x.trouble(), trouble);
    }

    /** Asks, or does, what a text tells. */
    static int ask(SqueezedSwap x, String call) {
        String[] parts = call.split(" ");
        int[] args = new int[parts.length - 1];
        for (int i = 0; i < args.length; i++) {
            args[i] = Integer.parseInt(parts[i + 1]);
        }
        return Driver.call(x, parts[0], args);
    }

    /** Does some calls, whatever they answer. */
    static SqueezedSwap after(SqueezedSwap x, String... calls) {
        for (String call : calls) {
            ask(x, call);
        }
        return x;
    }

    /** The call isn't refused, and answers what is due. */
    static void gives(SqueezedSwap x, String call, int want) {
        due(call, ask(x, call), want);
        if (!WITHOUT_TROUBLE.contains(nameOf(call))) {
            due("trouble() behind " + call, x.trouble(), 0);
        }
    }

    static void gives(SqueezedSwap x, String call, boolean want) {
        gives(x, call, want ? 1 : 0);
    }

    /** Answers of a call with its last number from 0 on. */
    static void row(SqueezedSwap x, String call, int... want) {
        for (int i = 0; i < want.length; i++) {
            gives(x, call + " " + i, want[i]);
        }
    }

    static void throwsNone(SqueezedSwap x, String call) {
        due(call, ask(x, call), THROWN);
    }

    // ---- refusals

    /** Each call is refused by that trouble, and changes nothing but TROUBLE. */
    static void refuses(Supplier<SqueezedSwap> make, int trouble, String... calls) {
        for (String call : calls) {
            SqueezedSwap x = make.get();
            due(call, ask(x, call), refusal(call));
            due("trouble() behind " + call, x.trouble(), trouble);
            due("where() behind " + call, x.where(), -1);
            changesNothing(make, call);
        }
    }

    static void refuses(int trouble, String... calls) {
        refuses(Checks::rich, trouble, calls);
    }

    /** What a refused call answers. */
    static int refusal(String call) {
        return OF_TRUTH.contains(nameOf(call)) ? 0 : -1;
    }

    /** The number that stands for # may be least to most, and no other. */
    static void bounds(Supplier<SqueezedSwap> make, int trouble, String call, int least, int most) {
        for (int inside : new int[] {least, most}) {
            SqueezedSwap x = make.get();
            ask(x, put(call, inside));
            due("trouble() behind " + put(call, inside), x.trouble(), 0);
        }
        refuses(make, trouble, put(call, least - 1), put(call, most + 1));
        for (int far : FAR) {
            refuses(make, trouble, put(call, far));
        }
    }

    static void bounds(int trouble, String call, int least, int most) {
        bounds(Checks::rich, trouble, call, least, most);
    }

    private static String put(String call, int number) {
        return call.replace("#", String.valueOf(number));
    }

    private static String nameOf(String call) {
        return call.split(" ")[0];
    }

    // ---- all that can be seen

    /** A call leaves all as it was: what can be seen, what can be undone and what is on the tape. */
    static void changesNothing(Supplier<SqueezedSwap> make, String call) {
        for (int undone : new int[] {0, 1, 10}) {
            String[] undos = Collections.nCopies(undone, "undo").toArray(new String[0]);
            alike(call + " and " + undone + " undone", () -> after(make.get(), undos),
                () -> after(after(make.get(), call), undos));
        }
        alike(call + " and the tape read", () -> readTape(make.get()), () -> readTape(after(make.get(), call)));
    }

    static void changesNothing(String... calls) {
        for (String call : calls) {
            changesNothing(Checks::rich, call);
        }
    }

    private static SqueezedSwap readTape(SqueezedSwap x) {
        x.swap(x.size(0));
        return x;
    }

    /** Of two objects all that can be seen is the same, but for some questions. */
    static void alike(String what, Supplier<SqueezedSwap> one, Supplier<SqueezedSwap> other, String... but) {
        int[] a = seen(one);
        int[] b = seen(other);
        for (int i = 0; i < a.length; i++) {
            if (a[i] != b[i] && !Set.of(but).contains(QUESTIONS.get(i))) {
                fail("behind " + what + " " + QUESTIONS.get(i) + " answers " + b[i] + ", not " + a[i]);
                return;
            }
        }
    }

    private static int[] seen(Supplier<SqueezedSwap> make) {
        int[] answers = new int[QUESTIONS.size()];
        SqueezedSwap x = null;
        for (int i = 0; i < answers.length; i++) {
            if (i % ASKED_OF_ONE == 0) {
                x = make.get();
            }
            answers[i] = ask(x, QUESTIONS.get(i));
        }
        return answers;
    }

    private static List<String> questions() {
        List<String> all = new ArrayList<>();
        all.add("fault");
        add(all, "size", 2);
        add(all, "about", 11);
        add(all, "total", 4);
        for (int d = 0; d < 10; d++) {
            all.add("squeezed " + d);
            add(all, "cell " + d, 16);
        }
        for (int p = 0; p < 30; p++) {
            all.add("page " + p);
            add(all, "pooled " + p, 5);
            add(all, "read " + p, 16);
        }
        for (int z = 0; z < 24; z++) {
            add(all, "zone " + z, 3);
            add(all, "slot " + z, 9);
        }
        for (int i = 0; i < 24; i++) {
            add(all, "op " + i, 3);
        }
        add(all, "aged", 30);
        add(all, "onDisk", 30);
        return all;
    }

    private static void add(List<String> all, String call, int count) {
        for (int i = 0; i < count; i++) {
            all.add(call + " " + i);
        }
    }

    // ---- texts

    /** A swap with data of these sizes, told in this order. */
    static String swapOf(int frames, int step, int big, int... sizes) {
        StringBuilder text = new StringBuilder();
        text.append("swap frames ").append(frames).append(" step ").append(step).append(" big ").append(big);
        for (int size : sizes) {
            text.append(';').append(dataOf(size));
        }
        return text.toString();
    }

    /** A LINE of data of a size: 2, or 4 to 18. */
    static String dataOf(int size) {
        if (size == 2) {
            return "data 20x16";
        }
        if (size == 12) {
            return "data 1,2,3,4,5,6,7,8,1,2,3,4,5,6,7,8";
        }
        if (size == 18) {
            return "data 1,2,3,4,5,6,7,8,9,10,11,12,13,14,15,16";
        }
        // A plain piece, a second one if one is too short, and a run.
        int plain = size < 12 ? size - 3 : size - 4;
        StringBuilder text = new StringBuilder("data ");
        for (int i = 1; i <= plain; i++) {
            text.append(i).append(',');
        }
        return text.append("20x").append(16 - plain).toString();
    }

    static SqueezedSwap told(String text) {
        SqueezedSwap x = new SqueezedSwap();
        if (Driver.tell(x, text) < 0) {
            fail("refused at " + x.where() + " by " + x.fault() + ": " + text);
        }
        return x;
    }

    static SqueezedSwap told() {
        return told(HEAD + DATA + OPS);
    }

    static void faulty(String text, int number, int place) {
        SqueezedSwap x = new SqueezedSwap();
        due("the swap of " + text, Driver.tell(x, text), -1);
        due("trouble() of " + text, x.trouble(), 4);
        due("fault() of " + text, x.fault(), number);
        due("where() of " + text, x.where(), place);
    }

    /** A text that has its fault where the good part ends. */
    static void faulty(String good, String bad, int number) {
        faulty(good + bad, number, good.length());
    }

    // ---- objects that have been used

    /** Page 0 in zone 0 (class 12), 1 and 4 in zone 1 (class 4), 2 a word, 3 on disk; four frames of four. */
    static SqueezedSwap filled() {
        return after(told(), "store 0 1", "store 1 2", "store 2 0", "store 3 3", "store 4 4");
    }

    /** Three zones of class 8, with pages 0, 3 and 5 in them, each alone. */
    static SqueezedSwap holed() {
        SqueezedSwap x = told(ROOMY);
        stores(x, 0, 6, 0);
        return after(x, "drop 1", "drop 2", "drop 4");
    }

    /**
     * Pages everywhere: 0 in zone 2 (class 12), 4 and 1 (held) in zone 0 (class 8), 5 in the second slot of zone 1
     * (class 4), 2 a word, 3 and 6 on disk; five frames of seven, a cell poked, all totals above 0, ten acts to be undone
     * and a text on the tape.
     */
    static SqueezedSwap rich() {
        SqueezedSwap x = told();
        after(x, "store 6 1", "store 7 2", "store 8 5", "limit 24", "store 0 1", "store 1 5", "store 4 5", "store 2 0",
            "store 3 3", "drop 8", "compact", "hold 1", "load 3", "poke 2 0 9", "store 5 4", "drop 7", "limit 7");
        Driver.feed(x, "swap frames 3 step 1 big 4;load 7");
        return x;
    }

    /** All thirty pages in eight zones of four slots. */
    static SqueezedSwap fullOfPages() {
        return stores(told(swapOf(8, 4, 15, 4, 5)), 0, 30, 0);
    }

    /** 24 zones of a frame and a page each: all frames, and all numbers that a zone can have. */
    static SqueezedSwap fullOfZones() {
        return stores(told(swapOf(24, 1, 15, 13, 4)), 0, 24, 0);
    }

    /** Zones of a frame and four slots, all full; the pages are as old as their numbers tell. Data 1: class 7. */
    static SqueezedSwap zones(int count) {
        return stores(told(swapOf(24, 1, 15, 4, 7, 18, 2, 13)), 0, 4 * count, 0);
    }

    /** Such zones with as many pages as told here, those of the first slots. */
    static SqueezedSwap zonesWith(int... pages) {
        return thinned(zones(pages.length), pages);
    }

    /** Of zones of four slots, all full, only so many pages are left. */
    static SqueezedSwap thinned(SqueezedSwap x, int... pages) {
        for (int z = 0; z < pages.length; z++) {
            for (int p = z * 4 + pages[z]; p < z * 4 + 4; p++) {
                x.drop(p);
            }
        }
        return x;
    }

    static SqueezedSwap withoutData() {
        return told(HEAD + ";load 1");
    }

    /** Stores data as pages, from the first to one ahead of the end. */
    static SqueezedSwap stores(SqueezedSwap x, int first, int end, int data) {
        for (int p = first; p < end; p++) {
            x.store(p, data);
        }
        return x;
    }
}
