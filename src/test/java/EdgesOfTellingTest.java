import java.util.ArrayList;
import java.util.List;

/** The edges of promises 49 to 51, and that each promise has tests of its edges. */
public final class EdgesOfTellingTest extends Checks {
    private static final List<Class<?>> EDGES = List.of(EdgesOfTextTest.class, EdgesOfDataTest.class,
        EdgesOfClassesTest.class, EdgesOfPoolTest.class, EdgesOfThoughtTest.class, EdgesOfActsTest.class,
        EdgesOfTellingTest.class);
    private static final int PROMISES = 51;

    public static void main(String[] args) {
        eachPromiseHasTests();
        runAll(EdgesOfTellingTest.class);
    }

    private static void eachPromiseHasTests() {
        begin("the tests of edges");
        List<String> names = new ArrayList<>();
        for (Class<?> edges : EDGES) {
            testsOf(edges).forEach(m -> names.add(m.getName()));
        }
        for (int promise = 1; promise <= PROMISES; promise++) {
            String begin = String.format("promise%02d", promise);
            if (names.stream().noneMatch(name -> name.startsWith(begin))) {
                fail("promise " + promise + " has none");
            }
        }
    }

    // ---- promise 49: onDisk

    static void promise49WithoutASwapThereIsNone() {
        throwsNone(new SqueezedSwap(), "onDisk 0");
        throwsNone(new SqueezedSwap(), "onDisk -1");
    }

    static void promise49WithoutAPageOnDiskThereIsNone() {
        throwsNone(told(), "onDisk 0");
        throwsNone(after(told(), "store 0 1", "store 2 0"), "onDisk 0");
    }

    static void promise49PagesGoUpToHowManyAreOnDisk() {
        SqueezedSwap x = rich();
        gives(x, "onDisk 0", 3);
        gives(x, "onDisk 1", 6);
        throwsNone(x, "onDisk 2");
        throwsNone(x, "onDisk -1");
        throwsNone(x, "onDisk -2147483648");
        throwsNone(x, "onDisk 2147483647");
    }

    static void promise49ByNumbersNotByTime() {
        SqueezedSwap x = after(told(), "store 29 3", "store 7 3", "store 0 3", "store 15 3");
        row(x, "onDisk", 0, 7, 15, 29);
        after(x, "load 7", "drop 7");
        row(x, "onDisk", 0, 15, 29);
        throwsNone(x, "onDisk 3");
    }

    static void promise49AllThirtyPages() {
        SqueezedSwap x = stores(told(), 0, 30, 3);
        for (int p = 0; p < 30; p++) {
            gives(x, "onDisk " + p, p);
        }
        throwsNone(x, "onDisk 30");
    }

    static void promise49ItChangesNothing() {
        changesNothing("onDisk 0", "onDisk 2");
    }

    // ---- promise 50: size

    static void promise50WhatIs0Or1() {
        for (int other : new int[] {-1, 2, 3, Integer.MIN_VALUE, Integer.MAX_VALUE}) {
            gives(rich(), "size " + other, -1);
            gives(new SqueezedSwap(), "size " + other, -1);
        }
        row(rich(), "size", 40, 10);
    }

    static void promise50TheTapeHasNoneTo900() {
        SqueezedSwap x = new SqueezedSwap();
        for (int fed = 0; fed <= 900; fed += 20) {
            gives(x, "size 0", fed);
            x.feed(0, 0, 0, 0, 0);
        }
        gives(x, "size 0", 900);
        x.swap(0);
        gives(x, "size 0", 0);
    }

    static void promise50NoneToTenCanBeUndone() {
        SqueezedSwap x = told();
        for (int acts = 0; acts < 30; acts++) {
            gives(x, "size 1", Math.min(10, acts));
            x.store(acts, 0);
        }
        for (int left = 10; left > 0; left--) {
            gives(x, "size 1", left);
            x.undo();
        }
        gives(x, "size 1", 0);
        x.undo();
        gives(x, "size 1", 0);
    }

    static void promise50ItChangesNothing() {
        changesNothing("size 0", "size 1", "size 2");
    }

    // ---- promise 51: trouble

    static void promise51ANewObjectHasNone() {
        gives(new SqueezedSwap(), "trouble", 0);
    }

    static void promise51EachCallThatIsNotRefusedTells0() {
        for (String call : Calls.GOOD) {
            SqueezedSwap x = rich();
            x.load(29);
            due("trouble() ahead of " + call, x.trouble(), 5);
            ask(x, call);
            due("trouble() behind " + call, x.trouble(), 0);
        }
        SqueezedSwap x = new SqueezedSwap();
        x.about(0);
        Driver.tell(x, HEAD);
        gives(x, "trouble", 0);
    }

    static void promise51EachRefusalTellsItsNumber() {
        SqueezedSwap x = rich();
        for (String call : List.of("about 11", "swap 41", "load 7", "home 16", "undo", "drop 29", "swap 0")) {
            ask(x, call);
        }
        gives(x, "trouble", 4);
        x.about(11);
        gives(x, "trouble", 1);
        x.swap(1);
        gives(x, "trouble", 2);
        x.load(7);
        gives(x, "trouble", 5);
    }

    static void promise51CallsWithoutANumberLeaveIt() {
        for (String call : List.of("feed 1 2 3 4 5", "fault", "where", "onDisk 0", "onDisk 9", "size 0", "size 9",
            "trouble")) {
            for (String ahead : List.of("about 0", "about 11", "home 16", "swap 0", "load 7")) {
                SqueezedSwap x = after(rich(), ahead);
                int trouble = x.trouble();
                ask(x, call);
                due("trouble() behind " + ahead + " and " + call, x.trouble(), trouble);
            }
        }
    }

    static void promise51QuestionsChangeNothingElse() {
        for (String question : Calls.QUESTIONS) {
            changesNothing(question);
        }
        changesNothing("fault", "where", "trouble");
    }
}
