import java.util.Arrays;
import java.util.Random;

/** Runs of calls by chance (always the same ones), each answer beside that of SwapModel. */
public final class ModelTest {
    private static final int RUNS = 500;
    private static final int TEXTS = 2000;

    private static final String[] ACTS = {"store", "store", "store", "store", "store", "store", "load", "drop", "hold",
        "hold", "release", "poke", "writeBack", "limit", "compact", "run", "undo", "undo"};
    private static final String[] QUESTIONS = {"about", "cell", "squeezed", "pieces", "piece", "fewest", "rest",
        "ranked", "sort", "home", "sizes", "gain", "next", "coldest", "fittest", "zone", "slot", "page", "pooled",
        "read", "aged", "total", "same", "waste", "would", "freeing", "holds", "pushes", "pushed", "foretold",
        "enough", "op", "onDisk", "size"};

    private static int wrong;

    private final SqueezedSwap x = new SqueezedSwap();
    private final SwapModel model = new SwapModel();
    private final int run;
    private final int pages;

    private ModelTest(int run) {
        this.run = run;
        this.pages = run % 3 == 0 ? 6 : run % 3 == 1 ? 14 : 30;
    }

    public static void main(String[] args) {
        for (int run = 0; run < RUNS && wrong < 20; run++) {
            new ModelTest(run).calls(new Random(run));
        }
        for (int run = RUNS; run < 2 * RUNS && wrong < 20; run++) {
            new ModelTest(run).holes(new Random(run));
        }
        ModelTest texts = new ModelTest(-1);
        Random r = new Random(77);
        for (int i = 0; i < TEXTS && wrong < 20; i++) {
            texts.tell(Texts.spoilt(r));
            texts.tell(Texts.misnumbered(r));
            texts.tell(Texts.mixed(r));
        }
        System.out.println(wrong == 0 ? "the model answers alike" : wrong + " answers are not those of the model");
        if (wrong != 0) {
            System.exit(1);
        }
    }

    private int call(String name, int... args) {
        int due = model.call(name, args);
        int got = Driver.call(x, name, args);
        if (got != due) {
            wrong++;
            System.out.println("run " + run + ": " + name + Arrays.toString(args) + " answered " + got + ", due is "
                + due);
        }
        return got;
    }

    private void tell(String text) {
        int before = wrong;
        for (int[] f : Driver.feeds(text)) {
            call("feed", f);
        }
        call("swap", text.length());
        call("trouble");
        call("fault");
        call("where");
        if (wrong > before) {
            System.out.println("  of the text: " + text);
        }
    }

    private void calls(Random r) {
        if (r.nextInt(4) == 0) {
            calls(r, 20);
        }
        tell(Texts.good(r));
        for (int stores = r.nextInt(30); stores > 0; stores--) {
            call("store", r.nextInt(pages), r.nextInt(10));
        }
        calls(r, 150);
        if (r.nextInt(3) == 0) {
            tell(Texts.spoilt(r));
            calls(r, 40);
        }
    }

    /** Many zones of few classes, of which many pages are dropped, so that there is something to be compacted. */
    private void holes(Random r) {
        tell(Texts.roomy(r));
        for (int p = 0; p < 30; p++) {
            call("store", p, r.nextInt(3));
        }
        for (int round = 0; round < 12; round++) {
            for (int acts = r.nextInt(8); acts > 0; acts--) {
                String[] few = {"drop", "drop", "hold", "store", "undo"};
                String name = few[r.nextInt(few.length)];
                call(name, name.equals("store") ? new int[] {r.nextInt(30), r.nextInt(3)} : arguments(name, r));
            }
            call("gain");
            call("would", 1 + r.nextInt(12), r.nextInt(2));
            call("holds", r.nextInt(2));
            call("freeing");
            if (r.nextInt(3) == 0) {
                call("compact");
                call("total", 3);
            }
            for (int z = 0; z < 24; z += 1 + r.nextInt(3)) {
                call("zone", z, 2);
                call("slot", z, r.nextInt(5));
            }
        }
        calls(r, 20);
    }

    private void calls(Random r, int count) {
        for (int i = 0; i < count && wrong < 20; i++) {
            boolean act = r.nextInt(3) == 0;
            String name = act ? ACTS[r.nextInt(ACTS.length)] : QUESTIONS[r.nextInt(QUESTIONS.length)];
            call(name, arguments(name, r));
            call("trouble");
            if (r.nextInt(12) == 0) {
                call("where");
                call("fault");
                call("swap", r.nextInt(3) + 901);
            }
        }
    }

    private int[] arguments(String name, Random r) {
        switch (name) {
            case "about": return new int[] {some(r, 0, 10)};
            case "cell": case "rest": return new int[] {some(r, 0, 9), some(r, 0, 15)};
            case "squeezed": case "pieces": case "fewest": case "ranked": case "sort":
                return new int[] {some(r, 0, 9)};
            case "piece": return new int[] {some(r, 0, 9), some(r, 0, 4), some(r, 0, 3)};
            case "home": case "next": return new int[] {some(r, 2, 15)};
            case "sizes": return new int[] {some(r, 1, 16), some(r, 0, 4)};
            case "coldest": return new int[] {some(r, 1, 16)};
            case "zone": return new int[] {some(r, 0, 6), some(r, 0, 2)};
            case "slot": return new int[] {some(r, 0, 6), some(r, 0, 8)};
            case "page": case "load": case "drop": case "hold": case "release": return new int[] {page(r)};
            case "pooled": return new int[] {page(r), some(r, 0, 4)};
            case "read": return new int[] {page(r), some(r, 0, 15)};
            case "aged": return new int[] {some(r, 0, 8)};
            case "total": return new int[] {some(r, 0, 3)};
            case "same": return new int[] {page(r), page(r)};
            case "would": return new int[] {some(r, 1, 24), r.nextInt(2)};
            case "holds": return new int[] {r.nextInt(2)};
            case "pushes": case "store": return new int[] {page(r), some(r, 0, 9)};
            case "pushed": return new int[] {page(r), some(r, 0, 9), some(r, 0, 3)};
            case "foretold": return new int[] {some(r, 1, 24), some(r, 1, 4), some(r, 0, 2)};
            case "op": return new int[] {some(r, 0, 23), some(r, 0, 2)};
            case "poke": return new int[] {some(r, 0, 9), some(r, 0, 15), r.nextInt(4) == 0 ? some(r, 0, 99) : r.nextInt(4)};
            case "writeBack": return new int[] {r.nextInt(3) > 0 ? 1 + r.nextInt(3) : some(r, 1, 30)};
            case "limit": return new int[] {some(r, 1, 24)};
            case "run": return new int[] {some(r, 0, 12), some(r, 1, 24)};
            case "onDisk": return new int[] {some(r, 0, 5)};
            case "size": return new int[] {some(r, 0, 1)};
            default: return new int[0];
        }
    }

    private int page(Random r) {
        return r.nextInt(12) > 0 ? r.nextInt(pages) : some(r, 0, 29);
    }

    /** Mostly within the bounds, now and then just outside, seldom far away. */
    private static int some(Random r, int least, int most) {
        int luck = r.nextInt(40);
        if (luck == 0) {
            return least - 1;
        }
        if (luck == 1) {
            return most + 1;
        }
        if (luck == 2) {
            int[] far = {Integer.MIN_VALUE, Integer.MAX_VALUE, -1000000, 1 << 28, r.nextInt()};
            return far[r.nextInt(far.length)];
        }
        return least + r.nextInt(most - least + 1);
    }
}
